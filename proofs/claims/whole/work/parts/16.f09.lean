/-! printed by wip/whole/decomp.py -/
def x_copyBytes_c2  (g : Sg) : Option (Sg) :=
  lt1 (cp2 g 30 0 123 0 (Int32.toNatClampNeg 2400)) (fun g1 => (some g1))
theorem e_x_copyBytes_c2 {X : Xx} {d : Nat} (hd : 1 ≤ d)  (g : Sg) : ∀ r, x_copyBytes_c2  g = some r → EvM zft mtl X d 146 [.ref 30, .ref 123] (SHF, g) ((fun r : Sg => ((none, (SHF, r)) : Out)) r) := by
  obtain ⟨d, rfl⟩ : ∃ d0, d = d0 + 1 := ⟨d - 1, by omega⟩
  have hd : 0 ≤ d := by omega
  refine E_in (f := (fun r : Sg => ((none, (SHF, r)) : Out))) rfl (Nat.le_of_ble_eq_true rfl) ?_
  unfold x_copyBytes_c2
  change Lt X d none k_146 _ 0 [some (.ref 30), some (.ref 123)] [] g _
  refine L_s (pc' := 1) rfl rfl ?_
  refine L_ic (pc' := 2) rfl q1_0 rfl ?_
  refine L_s (pc' := 3) rfl rfl ?_
  refine L_ic (pc' := 4) rfl q1_0 rfl ?_
  refine L_s (pc' := 5) rfl rfl ?_
  refine L_s (pc' := 6) (st' := [.int 2400, .int 0, .ref 123, .int 0, .ref 30]) rfl rfl ?_
  refine L_s (pc' := 7) rfl rfl ?_
  refine L_s (pc' := 8) (st' := [.int 2400, .int 2400, .int 0, .ref 123, .int 0, .ref 30]) rfl rfl ?_
  refine L_s (pc' := 11) rfl rfl ?_
  refine L_e (b := 2400) (by decide) ?_
  refine L_cp (pc' := 14) rfl sh_30 sh_123 (by decide) (by decide) (by decide) (by decide) rfl rfl ?_
  refine L_let fun g1 _ => ?_
  exact L_ret rfl rfl rfl
def rights_copyFrom_c1  (g : Sg) : Option (Sg) :=
  Option.bind (x_copyInts_c56 g) (fun g1 => lt1 (up2 g1 115 1 (g1 22 1)) (fun g2 => Option.bind (x_copyInts_c57 g2) (fun g3 => Option.bind (x_copyInts_c58 g3) (fun g4 => Option.bind (x_copyInts_c59 g4) (fun g5 => Option.bind (x_copyInts_c60 g5) (fun g6 => Option.bind (x_copyInts_c61 g6) (fun g7 => Option.bind (x_copyInts_c62 g7) (fun g8 => lt1 (up2 g8 115 8 (g8 22 8)) (fun g9 => Option.bind (x_copyBytes_c2 g9) (fun g10 => (some g10)))))))))))
theorem e_rights_copyFrom_c1 {X : Xx} {d : Nat} (hd : 2 ≤ d)  (g : Sg) : ∀ r, rights_copyFrom_c1  g = some r → EvM zft mtl X d 77 [.ref 115, .ref 22] (SHF, g) ((fun r : Sg => ((none, (SHF, r)) : Out)) r) := by
  obtain ⟨d, rfl⟩ : ∃ d0, d = d0 + 1 := ⟨d - 1, by omega⟩
  have hd : 1 ≤ d := by omega
  refine E_in (f := (fun r : Sg => ((none, (SHF, r)) : Out))) rfl (Nat.le_of_ble_eq_true rfl) ?_
  unfold rights_copyFrom_c1
  change Lt X d none k_77 _ 0 [some (.ref 115), some (.ref 22)] [] g _
  refine L_s (pc' := 1) rfl rfl ?_
  refine L_gf (pc' := 4) rfl fr_22_0 rfl ?_
  refine L_s (pc' := 5) rfl rfl ?_
  refine L_gf (pc' := 8) rfl fr_115_0 rfl ?_
  refine L_cv (pc' := 11) (as := [.ref 23, .ref 116]) (rest := []) rfl rfl (e_x_copyInts_c56 (by omega) _) rfl fun g1 => ?_
  refine L_s (pc' := 12) rfl rfl ?_
  refine L_s (pc' := 13) rfl rfl ?_
  refine L_gf (pc' := 16) rfl fi_22_1 rfl ?_
  refine L_pf (pc' := 19) rfl sh_115 (by decide) rfl rfl ?_
  refine L_let fun g2 _ => ?_
  refine L_s (pc' := 20) rfl rfl ?_
  refine L_gf (pc' := 23) rfl fr_22_2 rfl ?_
  refine L_s (pc' := 24) rfl rfl ?_
  refine L_gf (pc' := 27) rfl fr_115_2 rfl ?_
  refine L_cv (pc' := 30) (as := [.ref 24, .ref 117]) (rest := []) rfl rfl (e_x_copyInts_c57 (by omega) _) rfl fun g3 => ?_
  refine L_s (pc' := 31) rfl rfl ?_
  refine L_gf (pc' := 34) rfl fr_22_3 rfl ?_
  refine L_s (pc' := 35) rfl rfl ?_
  refine L_gf (pc' := 38) rfl fr_115_3 rfl ?_
  refine L_cv (pc' := 41) (as := [.ref 25, .ref 118]) (rest := []) rfl rfl (e_x_copyInts_c58 (by omega) _) rfl fun g4 => ?_
  refine L_s (pc' := 42) rfl rfl ?_
  refine L_gf (pc' := 45) rfl fr_22_4 rfl ?_
  refine L_s (pc' := 46) rfl rfl ?_
  refine L_gf (pc' := 49) rfl fr_115_4 rfl ?_
  refine L_cv (pc' := 52) (as := [.ref 26, .ref 119]) (rest := []) rfl rfl (e_x_copyInts_c59 (by omega) _) rfl fun g5 => ?_
  refine L_s (pc' := 53) rfl rfl ?_
  refine L_gf (pc' := 56) rfl fr_22_5 rfl ?_
  refine L_s (pc' := 57) rfl rfl ?_
  refine L_gf (pc' := 60) rfl fr_115_5 rfl ?_
  refine L_cv (pc' := 63) (as := [.ref 27, .ref 120]) (rest := []) rfl rfl (e_x_copyInts_c60 (by omega) _) rfl fun g6 => ?_
  refine L_s (pc' := 64) rfl rfl ?_
  refine L_gf (pc' := 67) rfl fr_22_6 rfl ?_
  refine L_s (pc' := 68) rfl rfl ?_
  refine L_gf (pc' := 71) rfl fr_115_6 rfl ?_
  refine L_cv (pc' := 74) (as := [.ref 28, .ref 121]) (rest := []) rfl rfl (e_x_copyInts_c61 (by omega) _) rfl fun g7 => ?_
  refine L_s (pc' := 75) rfl rfl ?_
  refine L_gf (pc' := 78) rfl fr_22_7 rfl ?_
  refine L_s (pc' := 79) rfl rfl ?_
  refine L_gf (pc' := 82) rfl fr_115_7 rfl ?_
  refine L_cv (pc' := 85) (as := [.ref 29, .ref 122]) (rest := []) rfl rfl (e_x_copyInts_c62 (by omega) _) rfl fun g8 => ?_
  refine L_s (pc' := 86) rfl rfl ?_
  refine L_s (pc' := 87) rfl rfl ?_
  refine L_gf (pc' := 90) rfl fi_22_8 rfl ?_
  refine L_pf (pc' := 93) rfl sh_115 (by decide) rfl rfl ?_
  refine L_let fun g9 _ => ?_
  refine L_s (pc' := 94) rfl rfl ?_
  refine L_gf (pc' := 97) rfl fr_22_9 rfl ?_
  refine L_s (pc' := 98) rfl rfl ?_
  refine L_gf (pc' := 101) rfl fr_115_9 rfl ?_
  refine L_cv (pc' := 104) (as := [.ref 30, .ref 123]) (rest := []) rfl rfl (e_x_copyBytes_c2 (by omega) _) rfl fun g10 => ?_
  exact L_ret rfl rfl rfl
def x_copyBytes_c3  (g : Sg) : Option (Sg) :=
  lt1 (cp2 g 32 0 125 0 (Int32.toNatClampNeg 500)) (fun g1 => (some g1))
theorem e_x_copyBytes_c3 {X : Xx} {d : Nat} (hd : 1 ≤ d)  (g : Sg) : ∀ r, x_copyBytes_c3  g = some r → EvM zft mtl X d 146 [.ref 32, .ref 125] (SHF, g) ((fun r : Sg => ((none, (SHF, r)) : Out)) r) := by
  obtain ⟨d, rfl⟩ : ∃ d0, d = d0 + 1 := ⟨d - 1, by omega⟩
  have hd : 0 ≤ d := by omega
  refine E_in (f := (fun r : Sg => ((none, (SHF, r)) : Out))) rfl (Nat.le_of_ble_eq_true rfl) ?_
  unfold x_copyBytes_c3
  change Lt X d none k_146 _ 0 [some (.ref 32), some (.ref 125)] [] g _
  refine L_s (pc' := 1) rfl rfl ?_
  refine L_ic (pc' := 2) rfl q1_0 rfl ?_
  refine L_s (pc' := 3) rfl rfl ?_
  refine L_ic (pc' := 4) rfl q1_0 rfl ?_
  refine L_s (pc' := 5) rfl rfl ?_
  refine L_s (pc' := 6) (st' := [.int 500, .int 0, .ref 125, .int 0, .ref 32]) rfl rfl ?_
  refine L_s (pc' := 7) rfl rfl ?_
  refine L_s (pc' := 8) (st' := [.int 500, .int 500, .int 0, .ref 125, .int 0, .ref 32]) rfl rfl ?_
  refine L_s (pc' := 11) rfl rfl ?_
  refine L_e (b := 500) (by decide) ?_
  refine L_cp (pc' := 14) rfl sh_32 sh_125 (by decide) (by decide) (by decide) (by decide) rfl rfl ?_
  refine L_let fun g1 _ => ?_
  exact L_ret rfl rfl rfl
def x_copyInts_c63  (g : Sg) : Option (Sg) :=
  lt1 (cp2 g 34 0 127 0 (Int32.toNatClampNeg 16)) (fun g1 => (some g1))
theorem e_x_copyInts_c63 {X : Xx} {d : Nat} (hd : 1 ≤ d)  (g : Sg) : ∀ r, x_copyInts_c63  g = some r → EvM zft mtl X d 145 [.ref 34, .ref 127] (SHF, g) ((fun r : Sg => ((none, (SHF, r)) : Out)) r) := by
  obtain ⟨d, rfl⟩ : ∃ d0, d = d0 + 1 := ⟨d - 1, by omega⟩
  have hd : 0 ≤ d := by omega
  refine E_in (f := (fun r : Sg => ((none, (SHF, r)) : Out))) rfl (Nat.le_of_ble_eq_true rfl) ?_
  unfold x_copyInts_c63
  change Lt X d none k_145 _ 0 [some (.ref 34), some (.ref 127)] [] g _
  refine L_s (pc' := 1) rfl rfl ?_
  refine L_ic (pc' := 2) rfl q1_0 rfl ?_
  refine L_s (pc' := 3) rfl rfl ?_
  refine L_ic (pc' := 4) rfl q1_0 rfl ?_
  refine L_s (pc' := 5) rfl rfl ?_
  refine L_s (pc' := 6) (st' := [.int 16, .int 0, .ref 127, .int 0, .ref 34]) rfl rfl ?_
  refine L_s (pc' := 7) rfl rfl ?_
  refine L_s (pc' := 8) (st' := [.int 16, .int 16, .int 0, .ref 127, .int 0, .ref 34]) rfl rfl ?_
  refine L_s (pc' := 11) rfl rfl ?_
  refine L_e (b := 16) (by decide) ?_
  refine L_cp (pc' := 14) rfl sh_34 sh_127 (by decide) (by decide) (by decide) (by decide) rfl rfl ?_
  refine L_let fun g1 _ => ?_
  exact L_ret rfl rfl rfl
def x_copyInts_c64  (g : Sg) : Option (Sg) :=
  lt1 (cp2 g 35 0 128 0 (Int32.toNatClampNeg 16)) (fun g1 => (some g1))
theorem e_x_copyInts_c64 {X : Xx} {d : Nat} (hd : 1 ≤ d)  (g : Sg) : ∀ r, x_copyInts_c64  g = some r → EvM zft mtl X d 145 [.ref 35, .ref 128] (SHF, g) ((fun r : Sg => ((none, (SHF, r)) : Out)) r) := by
  obtain ⟨d, rfl⟩ : ∃ d0, d = d0 + 1 := ⟨d - 1, by omega⟩
  have hd : 0 ≤ d := by omega
  refine E_in (f := (fun r : Sg => ((none, (SHF, r)) : Out))) rfl (Nat.le_of_ble_eq_true rfl) ?_
  unfold x_copyInts_c64
  change Lt X d none k_145 _ 0 [some (.ref 35), some (.ref 128)] [] g _
  refine L_s (pc' := 1) rfl rfl ?_
  refine L_ic (pc' := 2) rfl q1_0 rfl ?_
  refine L_s (pc' := 3) rfl rfl ?_
  refine L_ic (pc' := 4) rfl q1_0 rfl ?_
  refine L_s (pc' := 5) rfl rfl ?_
  refine L_s (pc' := 6) (st' := [.int 16, .int 0, .ref 128, .int 0, .ref 35]) rfl rfl ?_
  refine L_s (pc' := 7) rfl rfl ?_
  refine L_s (pc' := 8) (st' := [.int 16, .int 16, .int 0, .ref 128, .int 0, .ref 35]) rfl rfl ?_
  refine L_s (pc' := 11) rfl rfl ?_
  refine L_e (b := 16) (by decide) ?_
  refine L_cp (pc' := 14) rfl sh_35 sh_128 (by decide) (by decide) (by decide) (by decide) rfl rfl ?_
  refine L_let fun g1 _ => ?_
  exact L_ret rfl rfl rfl
def x_copyInts_c65  (g : Sg) : Option (Sg) :=
  lt1 (cp2 g 36 0 129 0 (Int32.toNatClampNeg 16)) (fun g1 => (some g1))
theorem e_x_copyInts_c65 {X : Xx} {d : Nat} (hd : 1 ≤ d)  (g : Sg) : ∀ r, x_copyInts_c65  g = some r → EvM zft mtl X d 145 [.ref 36, .ref 129] (SHF, g) ((fun r : Sg => ((none, (SHF, r)) : Out)) r) := by
  obtain ⟨d, rfl⟩ : ∃ d0, d = d0 + 1 := ⟨d - 1, by omega⟩
  have hd : 0 ≤ d := by omega
  refine E_in (f := (fun r : Sg => ((none, (SHF, r)) : Out))) rfl (Nat.le_of_ble_eq_true rfl) ?_
  unfold x_copyInts_c65
  change Lt X d none k_145 _ 0 [some (.ref 36), some (.ref 129)] [] g _
  refine L_s (pc' := 1) rfl rfl ?_
  refine L_ic (pc' := 2) rfl q1_0 rfl ?_
  refine L_s (pc' := 3) rfl rfl ?_
  refine L_ic (pc' := 4) rfl q1_0 rfl ?_
  refine L_s (pc' := 5) rfl rfl ?_
  refine L_s (pc' := 6) (st' := [.int 16, .int 0, .ref 129, .int 0, .ref 36]) rfl rfl ?_
  refine L_s (pc' := 7) rfl rfl ?_
  refine L_s (pc' := 8) (st' := [.int 16, .int 16, .int 0, .ref 129, .int 0, .ref 36]) rfl rfl ?_
  refine L_s (pc' := 11) rfl rfl ?_
  refine L_e (b := 16) (by decide) ?_
  refine L_cp (pc' := 14) rfl sh_36 sh_129 (by decide) (by decide) (by decide) (by decide) rfl rfl ?_
  refine L_let fun g1 _ => ?_
  exact L_ret rfl rfl rfl
def x_copyFlags_c5  (g : Sg) : Option (Sg) :=
  lt1 (cp2 g 37 0 130 0 (Int32.toNatClampNeg 64)) (fun g1 => (some g1))
theorem e_x_copyFlags_c5 {X : Xx} {d : Nat} (hd : 1 ≤ d)  (g : Sg) : ∀ r, x_copyFlags_c5  g = some r → EvM zft mtl X d 147 [.ref 37, .ref 130] (SHF, g) ((fun r : Sg => ((none, (SHF, r)) : Out)) r) := by
  obtain ⟨d, rfl⟩ : ∃ d0, d = d0 + 1 := ⟨d - 1, by omega⟩
  have hd : 0 ≤ d := by omega
  refine E_in (f := (fun r : Sg => ((none, (SHF, r)) : Out))) rfl (Nat.le_of_ble_eq_true rfl) ?_
  unfold x_copyFlags_c5
  change Lt X d none k_147 _ 0 [some (.ref 37), some (.ref 130)] [] g _
  refine L_s (pc' := 1) rfl rfl ?_
  refine L_ic (pc' := 2) rfl q1_0 rfl ?_
  refine L_s (pc' := 3) rfl rfl ?_
  refine L_ic (pc' := 4) rfl q1_0 rfl ?_
  refine L_s (pc' := 5) rfl rfl ?_
  refine L_s (pc' := 6) (st' := [.int 64, .int 0, .ref 130, .int 0, .ref 37]) rfl rfl ?_
  refine L_s (pc' := 7) rfl rfl ?_
  refine L_s (pc' := 8) (st' := [.int 64, .int 64, .int 0, .ref 130, .int 0, .ref 37]) rfl rfl ?_
  refine L_s (pc' := 11) rfl rfl ?_
  refine L_e (b := 64) (by decide) ?_
  refine L_cp (pc' := 14) rfl sh_37 sh_130 (by decide) (by decide) (by decide) (by decide) rfl rfl ?_
  refine L_let fun g1 _ => ?_
  exact L_ret rfl rfl rfl
def x_copyInts_c66  (g : Sg) : Option (Sg) :=
  lt1 (cp2 g 38 0 131 0 (Int32.toNatClampNeg 64)) (fun g1 => (some g1))
theorem e_x_copyInts_c66 {X : Xx} {d : Nat} (hd : 1 ≤ d)  (g : Sg) : ∀ r, x_copyInts_c66  g = some r → EvM zft mtl X d 145 [.ref 38, .ref 131] (SHF, g) ((fun r : Sg => ((none, (SHF, r)) : Out)) r) := by
  obtain ⟨d, rfl⟩ : ∃ d0, d = d0 + 1 := ⟨d - 1, by omega⟩
  have hd : 0 ≤ d := by omega
  refine E_in (f := (fun r : Sg => ((none, (SHF, r)) : Out))) rfl (Nat.le_of_ble_eq_true rfl) ?_
  unfold x_copyInts_c66
  change Lt X d none k_145 _ 0 [some (.ref 38), some (.ref 131)] [] g _
  refine L_s (pc' := 1) rfl rfl ?_
  refine L_ic (pc' := 2) rfl q1_0 rfl ?_
  refine L_s (pc' := 3) rfl rfl ?_
  refine L_ic (pc' := 4) rfl q1_0 rfl ?_
  refine L_s (pc' := 5) rfl rfl ?_
  refine L_s (pc' := 6) (st' := [.int 64, .int 0, .ref 131, .int 0, .ref 38]) rfl rfl ?_
  refine L_s (pc' := 7) rfl rfl ?_
  refine L_s (pc' := 8) (st' := [.int 64, .int 64, .int 0, .ref 131, .int 0, .ref 38]) rfl rfl ?_
  refine L_s (pc' := 11) rfl rfl ?_
  refine L_e (b := 64) (by decide) ?_
  refine L_cp (pc' := 14) rfl sh_38 sh_131 (by decide) (by decide) (by decide) (by decide) rfl rfl ?_
  refine L_let fun g1 _ => ?_
  exact L_ret rfl rfl rfl
def x_copyInts_c67  (g : Sg) : Option (Sg) :=
  lt1 (cp2 g 39 0 132 0 (Int32.toNatClampNeg 64)) (fun g1 => (some g1))
theorem e_x_copyInts_c67 {X : Xx} {d : Nat} (hd : 1 ≤ d)  (g : Sg) : ∀ r, x_copyInts_c67  g = some r → EvM zft mtl X d 145 [.ref 39, .ref 132] (SHF, g) ((fun r : Sg => ((none, (SHF, r)) : Out)) r) := by
  obtain ⟨d, rfl⟩ : ∃ d0, d = d0 + 1 := ⟨d - 1, by omega⟩
  have hd : 0 ≤ d := by omega
  refine E_in (f := (fun r : Sg => ((none, (SHF, r)) : Out))) rfl (Nat.le_of_ble_eq_true rfl) ?_
  unfold x_copyInts_c67
  change Lt X d none k_145 _ 0 [some (.ref 39), some (.ref 132)] [] g _
  refine L_s (pc' := 1) rfl rfl ?_
  refine L_ic (pc' := 2) rfl q1_0 rfl ?_
  refine L_s (pc' := 3) rfl rfl ?_
  refine L_ic (pc' := 4) rfl q1_0 rfl ?_
  refine L_s (pc' := 5) rfl rfl ?_
  refine L_s (pc' := 6) (st' := [.int 64, .int 0, .ref 132, .int 0, .ref 39]) rfl rfl ?_
  refine L_s (pc' := 7) rfl rfl ?_
  refine L_s (pc' := 8) (st' := [.int 64, .int 64, .int 0, .ref 132, .int 0, .ref 39]) rfl rfl ?_
  refine L_s (pc' := 11) rfl rfl ?_
  refine L_e (b := 64) (by decide) ?_
  refine L_cp (pc' := 14) rfl sh_39 sh_132 (by decide) (by decide) (by decide) (by decide) rfl rfl ?_
  refine L_let fun g1 _ => ?_
  exact L_ret rfl rfl rfl
def x_copyInts_c68  (g : Sg) : Option (Sg) :=
  lt1 (cp2 g 40 0 133 0 (Int32.toNatClampNeg 64)) (fun g1 => (some g1))
theorem e_x_copyInts_c68 {X : Xx} {d : Nat} (hd : 1 ≤ d)  (g : Sg) : ∀ r, x_copyInts_c68  g = some r → EvM zft mtl X d 145 [.ref 40, .ref 133] (SHF, g) ((fun r : Sg => ((none, (SHF, r)) : Out)) r) := by
  obtain ⟨d, rfl⟩ : ∃ d0, d = d0 + 1 := ⟨d - 1, by omega⟩
  have hd : 0 ≤ d := by omega
  refine E_in (f := (fun r : Sg => ((none, (SHF, r)) : Out))) rfl (Nat.le_of_ble_eq_true rfl) ?_
  unfold x_copyInts_c68
  change Lt X d none k_145 _ 0 [some (.ref 40), some (.ref 133)] [] g _
  refine L_s (pc' := 1) rfl rfl ?_
  refine L_ic (pc' := 2) rfl q1_0 rfl ?_
  refine L_s (pc' := 3) rfl rfl ?_
  refine L_ic (pc' := 4) rfl q1_0 rfl ?_
  refine L_s (pc' := 5) rfl rfl ?_
  refine L_s (pc' := 6) (st' := [.int 64, .int 0, .ref 133, .int 0, .ref 40]) rfl rfl ?_
  refine L_s (pc' := 7) rfl rfl ?_
  refine L_s (pc' := 8) (st' := [.int 64, .int 64, .int 0, .ref 133, .int 0, .ref 40]) rfl rfl ?_
  refine L_s (pc' := 11) rfl rfl ?_
  refine L_e (b := 64) (by decide) ?_
  refine L_cp (pc' := 14) rfl sh_40 sh_133 (by decide) (by decide) (by decide) (by decide) rfl rfl ?_
  refine L_let fun g1 _ => ?_
  exact L_ret rfl rfl rfl
def lines_copyFrom_c2  (g : Sg) : Option (Sg) :=
  lt1 (up2 g 126 0 (g 33 0)) (fun g1 => Option.bind (x_copyInts_c63 g1) (fun g2 => Option.bind (x_copyInts_c64 g2) (fun g3 => Option.bind (x_copyInts_c65 g3) (fun g4 => Option.bind (x_copyFlags_c5 g4) (fun g5 => Option.bind (x_copyInts_c66 g5) (fun g6 => Option.bind (x_copyInts_c67 g6) (fun g7 => Option.bind (x_copyInts_c68 g7) (fun g8 => (some g8)))))))))
theorem e_lines_copyFrom_c2 {X : Xx} {d : Nat} (hd : 2 ≤ d)  (g : Sg) : ∀ r, lines_copyFrom_c2  g = some r → EvM zft mtl X d 20 [.ref 126, .ref 33] (SHF, g) ((fun r : Sg => ((none, (SHF, r)) : Out)) r) := by
  obtain ⟨d, rfl⟩ : ∃ d0, d = d0 + 1 := ⟨d - 1, by omega⟩
  have hd : 1 ≤ d := by omega
  refine E_in (f := (fun r : Sg => ((none, (SHF, r)) : Out))) rfl (Nat.le_of_ble_eq_true rfl) ?_
  unfold lines_copyFrom_c2
  change Lt X d none k_20 _ 0 [some (.ref 126), some (.ref 33)] [] g _
  refine L_s (pc' := 1) rfl rfl ?_
  refine L_s (pc' := 2) rfl rfl ?_
  refine L_gf (pc' := 5) rfl fi_33_0 rfl ?_
  refine L_pf (pc' := 8) rfl sh_126 (by decide) rfl rfl ?_
  refine L_let fun g1 _ => ?_
  refine L_s (pc' := 9) rfl rfl ?_
  refine L_gf (pc' := 12) rfl fr_33_1 rfl ?_
  refine L_s (pc' := 13) rfl rfl ?_
  refine L_gf (pc' := 16) rfl fr_126_1 rfl ?_
  refine L_cv (pc' := 19) (as := [.ref 34, .ref 127]) (rest := []) rfl rfl (e_x_copyInts_c63 (by omega) _) rfl fun g2 => ?_
  refine L_s (pc' := 20) rfl rfl ?_
  refine L_gf (pc' := 23) rfl fr_33_2 rfl ?_
  refine L_s (pc' := 24) rfl rfl ?_
  refine L_gf (pc' := 27) rfl fr_126_2 rfl ?_
  refine L_cv (pc' := 30) (as := [.ref 35, .ref 128]) (rest := []) rfl rfl (e_x_copyInts_c64 (by omega) _) rfl fun g3 => ?_
  refine L_s (pc' := 31) rfl rfl ?_
  refine L_gf (pc' := 34) rfl fr_33_3 rfl ?_
  refine L_s (pc' := 35) rfl rfl ?_
  refine L_gf (pc' := 38) rfl fr_126_3 rfl ?_
  refine L_cv (pc' := 41) (as := [.ref 36, .ref 129]) (rest := []) rfl rfl (e_x_copyInts_c65 (by omega) _) rfl fun g4 => ?_
  refine L_s (pc' := 42) rfl rfl ?_
  refine L_gf (pc' := 45) rfl fr_33_4 rfl ?_
  refine L_s (pc' := 46) rfl rfl ?_
  refine L_gf (pc' := 49) rfl fr_126_4 rfl ?_
  refine L_cv (pc' := 52) (as := [.ref 37, .ref 130]) (rest := []) rfl rfl (e_x_copyFlags_c5 (by omega) _) rfl fun g5 => ?_
  refine L_s (pc' := 53) rfl rfl ?_
  refine L_gf (pc' := 56) rfl fr_33_5 rfl ?_
  refine L_s (pc' := 57) rfl rfl ?_
  refine L_gf (pc' := 60) rfl fr_126_5 rfl ?_
  refine L_cv (pc' := 63) (as := [.ref 38, .ref 131]) (rest := []) rfl rfl (e_x_copyInts_c66 (by omega) _) rfl fun g6 => ?_
  refine L_s (pc' := 64) rfl rfl ?_
  refine L_gf (pc' := 67) rfl fr_33_6 rfl ?_
  refine L_s (pc' := 68) rfl rfl ?_
  refine L_gf (pc' := 71) rfl fr_126_6 rfl ?_
  refine L_cv (pc' := 74) (as := [.ref 39, .ref 132]) (rest := []) rfl rfl (e_x_copyInts_c67 (by omega) _) rfl fun g7 => ?_
  refine L_s (pc' := 75) rfl rfl ?_
  refine L_gf (pc' := 78) rfl fr_33_7 rfl ?_
  refine L_s (pc' := 79) rfl rfl ?_
  refine L_gf (pc' := 82) rfl fr_126_7 rfl ?_
  refine L_cv (pc' := 85) (as := [.ref 40, .ref 133]) (rest := []) rfl rfl (e_x_copyInts_c68 (by omega) _) rfl fun g8 => ?_
  exact L_ret rfl rfl rfl
def x_copyFlags_c6  (g : Sg) : Option (Sg) :=
  lt1 (cp2 g 41 0 134 0 (Int32.toNatClampNeg 100)) (fun g1 => (some g1))
theorem e_x_copyFlags_c6 {X : Xx} {d : Nat} (hd : 1 ≤ d)  (g : Sg) : ∀ r, x_copyFlags_c6  g = some r → EvM zft mtl X d 147 [.ref 41, .ref 134] (SHF, g) ((fun r : Sg => ((none, (SHF, r)) : Out)) r) := by
  obtain ⟨d, rfl⟩ : ∃ d0, d = d0 + 1 := ⟨d - 1, by omega⟩
  have hd : 0 ≤ d := by omega
  refine E_in (f := (fun r : Sg => ((none, (SHF, r)) : Out))) rfl (Nat.le_of_ble_eq_true rfl) ?_
  unfold x_copyFlags_c6
  change Lt X d none k_147 _ 0 [some (.ref 41), some (.ref 134)] [] g _
  refine L_s (pc' := 1) rfl rfl ?_
  refine L_ic (pc' := 2) rfl q1_0 rfl ?_
  refine L_s (pc' := 3) rfl rfl ?_
  refine L_ic (pc' := 4) rfl q1_0 rfl ?_
  refine L_s (pc' := 5) rfl rfl ?_
  refine L_s (pc' := 6) (st' := [.int 100, .int 0, .ref 134, .int 0, .ref 41]) rfl rfl ?_
  refine L_s (pc' := 7) rfl rfl ?_
  refine L_s (pc' := 8) (st' := [.int 100, .int 100, .int 0, .ref 134, .int 0, .ref 41]) rfl rfl ?_
  refine L_s (pc' := 11) rfl rfl ?_
  refine L_e (b := 100) (by decide) ?_
  refine L_cp (pc' := 14) rfl sh_41 sh_134 (by decide) (by decide) (by decide) (by decide) rfl rfl ?_
  refine L_let fun g1 _ => ?_
  exact L_ret rfl rfl rfl
def law_copyFrom_c1  (g : Sg) : Option (Sg) :=
  lt1 (up2 g 124 0 (g 31 0)) (fun g1 => Option.bind (x_copyBytes_c3 g1) (fun g2 => lt1 (up2 g2 124 2 (g2 31 2)) (fun g3 => lt1 (up2 g3 124 3 (g3 31 3)) (fun g4 => Option.bind (lines_copyFrom_c2 g4) (fun g5 => Option.bind (x_copyFlags_c6 g5) (fun g6 => (some g6)))))))
theorem e_law_copyFrom_c1 {X : Xx} {d : Nat} (hd : 3 ≤ d)  (g : Sg) : ∀ r, law_copyFrom_c1  g = some r → EvM zft mtl X d 18 [.ref 124, .ref 31] (SHF, g) ((fun r : Sg => ((none, (SHF, r)) : Out)) r) := by
  obtain ⟨d, rfl⟩ : ∃ d0, d = d0 + 1 := ⟨d - 1, by omega⟩
  have hd : 2 ≤ d := by omega
  refine E_in (f := (fun r : Sg => ((none, (SHF, r)) : Out))) rfl (Nat.le_of_ble_eq_true rfl) ?_
  unfold law_copyFrom_c1
  change Lt X d none k_18 _ 0 [some (.ref 124), some (.ref 31)] [] g _
  refine L_s (pc' := 1) rfl rfl ?_
  refine L_s (pc' := 2) rfl rfl ?_
  refine L_gf (pc' := 5) rfl fi_31_0 rfl ?_
  refine L_pf (pc' := 8) rfl sh_124 (by decide) rfl rfl ?_
  refine L_let fun g1 _ => ?_
  refine L_s (pc' := 9) rfl rfl ?_
  refine L_gf (pc' := 12) rfl fr_31_1 rfl ?_
  refine L_s (pc' := 13) rfl rfl ?_
  refine L_gf (pc' := 16) rfl fr_124_1 rfl ?_
  refine L_cv (pc' := 19) (as := [.ref 32, .ref 125]) (rest := []) rfl rfl (e_x_copyBytes_c3 (by omega) _) rfl fun g2 => ?_
  refine L_s (pc' := 20) rfl rfl ?_
  refine L_s (pc' := 21) rfl rfl ?_
  refine L_gf (pc' := 24) rfl fi_31_2 rfl ?_
  refine L_pf (pc' := 27) rfl sh_124 (by decide) rfl rfl ?_
  refine L_let fun g3 _ => ?_
  refine L_s (pc' := 28) rfl rfl ?_
  refine L_s (pc' := 29) rfl rfl ?_
  refine L_gf (pc' := 32) rfl fi_31_3 rfl ?_
  refine L_pf (pc' := 35) rfl sh_124 (by decide) rfl rfl ?_
  refine L_let fun g4 _ => ?_
  refine L_s (pc' := 36) rfl rfl ?_
  refine L_gf (pc' := 39) rfl fr_124_4 rfl ?_
  refine L_s (pc' := 40) rfl rfl ?_
  refine L_gf (pc' := 43) rfl fr_31_4 rfl ?_
  refine L_cv (pc' := 46) (as := [.ref 126, .ref 33]) (rest := []) rfl rfl (e_lines_copyFrom_c2 (by omega) _) rfl fun g5 => ?_
  refine L_s (pc' := 47) rfl rfl ?_
  refine L_gf (pc' := 50) rfl fr_31_5 rfl ?_
  refine L_s (pc' := 51) rfl rfl ?_
  refine L_gf (pc' := 54) rfl fr_124_5 rfl ?_
  refine L_cv (pc' := 57) (as := [.ref 41, .ref 134]) (rest := []) rfl rfl (e_x_copyFlags_c6 (by omega) _) rfl fun g6 => ?_
  exact L_ret rfl rfl rfl
def x_copyInts_c69  (g : Sg) : Option (Sg) :=
  lt1 (cp2 g 43 0 136 0 (Int32.toNatClampNeg 150)) (fun g1 => (some g1))
theorem e_x_copyInts_c69 {X : Xx} {d : Nat} (hd : 1 ≤ d)  (g : Sg) : ∀ r, x_copyInts_c69  g = some r → EvM zft mtl X d 145 [.ref 43, .ref 136] (SHF, g) ((fun r : Sg => ((none, (SHF, r)) : Out)) r) := by
  obtain ⟨d, rfl⟩ : ∃ d0, d = d0 + 1 := ⟨d - 1, by omega⟩
  have hd : 0 ≤ d := by omega
  refine E_in (f := (fun r : Sg => ((none, (SHF, r)) : Out))) rfl (Nat.le_of_ble_eq_true rfl) ?_
  unfold x_copyInts_c69
  change Lt X d none k_145 _ 0 [some (.ref 43), some (.ref 136)] [] g _
  refine L_s (pc' := 1) rfl rfl ?_
  refine L_ic (pc' := 2) rfl q1_0 rfl ?_
  refine L_s (pc' := 3) rfl rfl ?_
  refine L_ic (pc' := 4) rfl q1_0 rfl ?_
  refine L_s (pc' := 5) rfl rfl ?_
  refine L_s (pc' := 6) (st' := [.int 150, .int 0, .ref 136, .int 0, .ref 43]) rfl rfl ?_
  refine L_s (pc' := 7) rfl rfl ?_
  refine L_s (pc' := 8) (st' := [.int 150, .int 150, .int 0, .ref 136, .int 0, .ref 43]) rfl rfl ?_
  refine L_s (pc' := 11) rfl rfl ?_
  refine L_e (b := 150) (by decide) ?_
  refine L_cp (pc' := 14) rfl sh_43 sh_136 (by decide) (by decide) (by decide) (by decide) rfl rfl ?_
  refine L_let fun g1 _ => ?_
  exact L_ret rfl rfl rfl
def x_copyInts_c70  (g : Sg) : Option (Sg) :=
  lt1 (cp2 g 44 0 137 0 (Int32.toNatClampNeg 150)) (fun g1 => (some g1))
theorem e_x_copyInts_c70 {X : Xx} {d : Nat} (hd : 1 ≤ d)  (g : Sg) : ∀ r, x_copyInts_c70  g = some r → EvM zft mtl X d 145 [.ref 44, .ref 137] (SHF, g) ((fun r : Sg => ((none, (SHF, r)) : Out)) r) := by
  obtain ⟨d, rfl⟩ : ∃ d0, d = d0 + 1 := ⟨d - 1, by omega⟩
  have hd : 0 ≤ d := by omega
  refine E_in (f := (fun r : Sg => ((none, (SHF, r)) : Out))) rfl (Nat.le_of_ble_eq_true rfl) ?_
  unfold x_copyInts_c70
  change Lt X d none k_145 _ 0 [some (.ref 44), some (.ref 137)] [] g _
  refine L_s (pc' := 1) rfl rfl ?_
  refine L_ic (pc' := 2) rfl q1_0 rfl ?_
  refine L_s (pc' := 3) rfl rfl ?_
  refine L_ic (pc' := 4) rfl q1_0 rfl ?_
  refine L_s (pc' := 5) rfl rfl ?_
  refine L_s (pc' := 6) (st' := [.int 150, .int 0, .ref 137, .int 0, .ref 44]) rfl rfl ?_
  refine L_s (pc' := 7) rfl rfl ?_
  refine L_s (pc' := 8) (st' := [.int 150, .int 150, .int 0, .ref 137, .int 0, .ref 44]) rfl rfl ?_
  refine L_s (pc' := 11) rfl rfl ?_
  refine L_e (b := 150) (by decide) ?_
  refine L_cp (pc' := 14) rfl sh_44 sh_137 (by decide) (by decide) (by decide) (by decide) rfl rfl ?_
  refine L_let fun g1 _ => ?_
  exact L_ret rfl rfl rfl
def x_copyInts_c71  (g : Sg) : Option (Sg) :=
  lt1 (cp2 g 45 0 138 0 (Int32.toNatClampNeg 150)) (fun g1 => (some g1))
theorem e_x_copyInts_c71 {X : Xx} {d : Nat} (hd : 1 ≤ d)  (g : Sg) : ∀ r, x_copyInts_c71  g = some r → EvM zft mtl X d 145 [.ref 45, .ref 138] (SHF, g) ((fun r : Sg => ((none, (SHF, r)) : Out)) r) := by
  obtain ⟨d, rfl⟩ : ∃ d0, d = d0 + 1 := ⟨d - 1, by omega⟩
  have hd : 0 ≤ d := by omega
  refine E_in (f := (fun r : Sg => ((none, (SHF, r)) : Out))) rfl (Nat.le_of_ble_eq_true rfl) ?_
  unfold x_copyInts_c71
  change Lt X d none k_145 _ 0 [some (.ref 45), some (.ref 138)] [] g _
  refine L_s (pc' := 1) rfl rfl ?_
  refine L_ic (pc' := 2) rfl q1_0 rfl ?_
  refine L_s (pc' := 3) rfl rfl ?_
  refine L_ic (pc' := 4) rfl q1_0 rfl ?_
  refine L_s (pc' := 5) rfl rfl ?_
  refine L_s (pc' := 6) (st' := [.int 150, .int 0, .ref 138, .int 0, .ref 45]) rfl rfl ?_
  refine L_s (pc' := 7) rfl rfl ?_
  refine L_s (pc' := 8) (st' := [.int 150, .int 150, .int 0, .ref 138, .int 0, .ref 45]) rfl rfl ?_
  refine L_s (pc' := 11) rfl rfl ?_
  refine L_e (b := 150) (by decide) ?_
  refine L_cp (pc' := 14) rfl sh_45 sh_138 (by decide) (by decide) (by decide) (by decide) rfl rfl ?_
  refine L_let fun g1 _ => ?_
  exact L_ret rfl rfl rfl
def x_copyInts_c72  (g : Sg) : Option (Sg) :=
  lt1 (cp2 g 46 0 139 0 (Int32.toNatClampNeg 150)) (fun g1 => (some g1))
theorem e_x_copyInts_c72 {X : Xx} {d : Nat} (hd : 1 ≤ d)  (g : Sg) : ∀ r, x_copyInts_c72  g = some r → EvM zft mtl X d 145 [.ref 46, .ref 139] (SHF, g) ((fun r : Sg => ((none, (SHF, r)) : Out)) r) := by
  obtain ⟨d, rfl⟩ : ∃ d0, d = d0 + 1 := ⟨d - 1, by omega⟩
  have hd : 0 ≤ d := by omega
  refine E_in (f := (fun r : Sg => ((none, (SHF, r)) : Out))) rfl (Nat.le_of_ble_eq_true rfl) ?_
  unfold x_copyInts_c72
  change Lt X d none k_145 _ 0 [some (.ref 46), some (.ref 139)] [] g _
  refine L_s (pc' := 1) rfl rfl ?_
  refine L_ic (pc' := 2) rfl q1_0 rfl ?_
  refine L_s (pc' := 3) rfl rfl ?_
  refine L_ic (pc' := 4) rfl q1_0 rfl ?_
  refine L_s (pc' := 5) rfl rfl ?_
  refine L_s (pc' := 6) (st' := [.int 150, .int 0, .ref 139, .int 0, .ref 46]) rfl rfl ?_
  refine L_s (pc' := 7) rfl rfl ?_
  refine L_s (pc' := 8) (st' := [.int 150, .int 150, .int 0, .ref 139, .int 0, .ref 46]) rfl rfl ?_
  refine L_s (pc' := 11) rfl rfl ?_
  refine L_e (b := 150) (by decide) ?_
  refine L_cp (pc' := 14) rfl sh_46 sh_139 (by decide) (by decide) (by decide) (by decide) rfl rfl ?_
  refine L_let fun g1 _ => ?_
  exact L_ret rfl rfl rfl
def gauges_copyFrom_c1  (g : Sg) : Option (Sg) :=
  lt1 (up2 g 135 0 (g 42 0)) (fun g1 => Option.bind (x_copyInts_c69 g1) (fun g2 => Option.bind (x_copyInts_c70 g2) (fun g3 => Option.bind (x_copyInts_c71 g3) (fun g4 => Option.bind (x_copyInts_c72 g4) (fun g5 => (some g5))))))
theorem e_gauges_copyFrom_c1 {X : Xx} {d : Nat} (hd : 2 ≤ d)  (g : Sg) : ∀ r, gauges_copyFrom_c1  g = some r → EvM zft mtl X d 13 [.ref 135, .ref 42] (SHF, g) ((fun r : Sg => ((none, (SHF, r)) : Out)) r) := by
  obtain ⟨d, rfl⟩ : ∃ d0, d = d0 + 1 := ⟨d - 1, by omega⟩
  have hd : 1 ≤ d := by omega
  refine E_in (f := (fun r : Sg => ((none, (SHF, r)) : Out))) rfl (Nat.le_of_ble_eq_true rfl) ?_
  unfold gauges_copyFrom_c1
  change Lt X d none k_13 _ 0 [some (.ref 135), some (.ref 42)] [] g _
  refine L_s (pc' := 1) rfl rfl ?_
  refine L_s (pc' := 2) rfl rfl ?_
  refine L_gf (pc' := 5) rfl fi_42_0 rfl ?_
  refine L_pf (pc' := 8) rfl sh_135 (by decide) rfl rfl ?_
  refine L_let fun g1 _ => ?_
  refine L_s (pc' := 9) rfl rfl ?_
  refine L_gf (pc' := 12) rfl fr_42_1 rfl ?_
  refine L_s (pc' := 13) rfl rfl ?_
  refine L_gf (pc' := 16) rfl fr_135_1 rfl ?_
  refine L_cv (pc' := 19) (as := [.ref 43, .ref 136]) (rest := []) rfl rfl (e_x_copyInts_c69 (by omega) _) rfl fun g2 => ?_
  refine L_s (pc' := 20) rfl rfl ?_
  refine L_gf (pc' := 23) rfl fr_42_2 rfl ?_
  refine L_s (pc' := 24) rfl rfl ?_
  refine L_gf (pc' := 27) rfl fr_135_2 rfl ?_
  refine L_cv (pc' := 30) (as := [.ref 44, .ref 137]) (rest := []) rfl rfl (e_x_copyInts_c70 (by omega) _) rfl fun g3 => ?_
  refine L_s (pc' := 31) rfl rfl ?_
  refine L_gf (pc' := 34) rfl fr_42_3 rfl ?_
  refine L_s (pc' := 35) rfl rfl ?_
  refine L_gf (pc' := 38) rfl fr_135_3 rfl ?_
  refine L_cv (pc' := 41) (as := [.ref 45, .ref 138]) (rest := []) rfl rfl (e_x_copyInts_c71 (by omega) _) rfl fun g4 => ?_
  refine L_s (pc' := 42) rfl rfl ?_
  refine L_gf (pc' := 45) rfl fr_42_4 rfl ?_
  refine L_s (pc' := 46) rfl rfl ?_
  refine L_gf (pc' := 49) rfl fr_135_4 rfl ?_
  refine L_cv (pc' := 52) (as := [.ref 46, .ref 139]) (rest := []) rfl rfl (e_x_copyInts_c72 (by omega) _) rfl fun g5 => ?_
  exact L_ret rfl rfl rfl
def told_copyFrom_c1  (g : Sg) : Option (Sg) :=
  Option.bind (net_copyFrom_c1 g) (fun g1 => Option.bind (rights_copyFrom_c1 g1) (fun g2 => Option.bind (law_copyFrom_c1 g2) (fun g3 => Option.bind (gauges_copyFrom_c1 g3) (fun g4 => (some g4)))))
theorem e_told_copyFrom_c1 {X : Xx} {d : Nat} (hd : 4 ≤ d)  (g : Sg) : ∀ r, told_copyFrom_c1  g = some r → EvM zft mtl X d 88 [.ref 94, .ref 1] (SHF, g) ((fun r : Sg => ((none, (SHF, r)) : Out)) r) := by
  obtain ⟨d, rfl⟩ : ∃ d0, d = d0 + 1 := ⟨d - 1, by omega⟩
  have hd : 3 ≤ d := by omega
  refine E_in (f := (fun r : Sg => ((none, (SHF, r)) : Out))) rfl (Nat.le_of_ble_eq_true rfl) ?_
  unfold told_copyFrom_c1
  change Lt X d none k_88 _ 0 [some (.ref 94), some (.ref 1)] [] g _
  refine L_s (pc' := 1) rfl rfl ?_
  refine L_gf (pc' := 4) rfl fr_94_0 rfl ?_
  refine L_s (pc' := 5) rfl rfl ?_
  refine L_gf (pc' := 8) rfl fr_1_0 rfl ?_
  refine L_cv (pc' := 11) (as := [.ref 95, .ref 2]) (rest := []) rfl rfl (e_net_copyFrom_c1 (by omega) _) rfl fun g1 => ?_
  refine L_s (pc' := 12) rfl rfl ?_
  refine L_gf (pc' := 15) rfl fr_94_1 rfl ?_
  refine L_s (pc' := 16) rfl rfl ?_
  refine L_gf (pc' := 19) rfl fr_1_1 rfl ?_
  refine L_cv (pc' := 22) (as := [.ref 115, .ref 22]) (rest := []) rfl rfl (e_rights_copyFrom_c1 (by omega) _) rfl fun g2 => ?_
  refine L_s (pc' := 23) rfl rfl ?_
  refine L_gf (pc' := 26) rfl fr_94_2 rfl ?_
  refine L_s (pc' := 27) rfl rfl ?_
  refine L_gf (pc' := 30) rfl fr_1_2 rfl ?_
  refine L_cv (pc' := 33) (as := [.ref 124, .ref 31]) (rest := []) rfl rfl (e_law_copyFrom_c1 (by omega) _) rfl fun g3 => ?_
  refine L_s (pc' := 34) rfl rfl ?_
  refine L_gf (pc' := 37) rfl fr_94_3 rfl ?_
  refine L_s (pc' := 38) rfl rfl ?_
  refine L_gf (pc' := 41) rfl fr_1_3 rfl ?_
  refine L_cv (pc' := 44) (as := [.ref 135, .ref 42]) (rest := []) rfl rfl (e_gauges_copyFrom_c1 (by omega) _) rfl fun g4 => ?_
  exact L_ret rfl rfl rfl
def x_copyInts_c73  (g : Sg) : Option (Sg) :=
  lt1 (cp2 g 3 0 142 0 (Int32.toNatClampNeg 10)) (fun g1 => (some g1))
theorem e_x_copyInts_c73 {X : Xx} {d : Nat} (hd : 1 ≤ d)  (g : Sg) : ∀ r, x_copyInts_c73  g = some r → EvM zft mtl X d 145 [.ref 3, .ref 142] (SHF, g) ((fun r : Sg => ((none, (SHF, r)) : Out)) r) := by
  obtain ⟨d, rfl⟩ : ∃ d0, d = d0 + 1 := ⟨d - 1, by omega⟩
  have hd : 0 ≤ d := by omega
  refine E_in (f := (fun r : Sg => ((none, (SHF, r)) : Out))) rfl (Nat.le_of_ble_eq_true rfl) ?_
  unfold x_copyInts_c73
  change Lt X d none k_145 _ 0 [some (.ref 3), some (.ref 142)] [] g _
  refine L_s (pc' := 1) rfl rfl ?_
  refine L_ic (pc' := 2) rfl q1_0 rfl ?_
  refine L_s (pc' := 3) rfl rfl ?_
  refine L_ic (pc' := 4) rfl q1_0 rfl ?_
  refine L_s (pc' := 5) rfl rfl ?_
  refine L_s (pc' := 6) (st' := [.int 10, .int 0, .ref 142, .int 0, .ref 3]) rfl rfl ?_
  refine L_s (pc' := 7) rfl rfl ?_
  refine L_s (pc' := 8) (st' := [.int 10, .int 10, .int 0, .ref 142, .int 0, .ref 3]) rfl rfl ?_
  refine L_s (pc' := 11) rfl rfl ?_
  refine L_e (b := 10) (by decide) ?_
  refine L_cp (pc' := 14) rfl sh_3 sh_142 (by decide) (by decide) (by decide) (by decide) rfl rfl ?_
  refine L_let fun g1 _ => ?_
  exact L_ret rfl rfl rfl
def x_copyInts_c74  (g : Sg) : Option (Sg) :=
  lt1 (cp2 g 4 0 143 0 (Int32.toNatClampNeg 10)) (fun g1 => (some g1))
theorem e_x_copyInts_c74 {X : Xx} {d : Nat} (hd : 1 ≤ d)  (g : Sg) : ∀ r, x_copyInts_c74  g = some r → EvM zft mtl X d 145 [.ref 4, .ref 143] (SHF, g) ((fun r : Sg => ((none, (SHF, r)) : Out)) r) := by
  obtain ⟨d, rfl⟩ : ∃ d0, d = d0 + 1 := ⟨d - 1, by omega⟩
  have hd : 0 ≤ d := by omega
  refine E_in (f := (fun r : Sg => ((none, (SHF, r)) : Out))) rfl (Nat.le_of_ble_eq_true rfl) ?_
  unfold x_copyInts_c74
  change Lt X d none k_145 _ 0 [some (.ref 4), some (.ref 143)] [] g _
  refine L_s (pc' := 1) rfl rfl ?_
  refine L_ic (pc' := 2) rfl q1_0 rfl ?_
  refine L_s (pc' := 3) rfl rfl ?_
  refine L_ic (pc' := 4) rfl q1_0 rfl ?_
  refine L_s (pc' := 5) rfl rfl ?_
  refine L_s (pc' := 6) (st' := [.int 10, .int 0, .ref 143, .int 0, .ref 4]) rfl rfl ?_
  refine L_s (pc' := 7) rfl rfl ?_
  refine L_s (pc' := 8) (st' := [.int 10, .int 10, .int 0, .ref 143, .int 0, .ref 4]) rfl rfl ?_
  refine L_s (pc' := 11) rfl rfl ?_
  refine L_e (b := 10) (by decide) ?_
  refine L_cp (pc' := 14) rfl sh_4 sh_143 (by decide) (by decide) (by decide) (by decide) rfl rfl ?_
  refine L_let fun g1 _ => ?_
  exact L_ret rfl rfl rfl
def x_copyInts_c75  (g : Sg) : Option (Sg) :=
  lt1 (cp2 g 5 0 144 0 (Int32.toNatClampNeg 10)) (fun g1 => (some g1))
theorem e_x_copyInts_c75 {X : Xx} {d : Nat} (hd : 1 ≤ d)  (g : Sg) : ∀ r, x_copyInts_c75  g = some r → EvM zft mtl X d 145 [.ref 5, .ref 144] (SHF, g) ((fun r : Sg => ((none, (SHF, r)) : Out)) r) := by
  obtain ⟨d, rfl⟩ : ∃ d0, d = d0 + 1 := ⟨d - 1, by omega⟩
  have hd : 0 ≤ d := by omega
  refine E_in (f := (fun r : Sg => ((none, (SHF, r)) : Out))) rfl (Nat.le_of_ble_eq_true rfl) ?_
  unfold x_copyInts_c75
  change Lt X d none k_145 _ 0 [some (.ref 5), some (.ref 144)] [] g _
  refine L_s (pc' := 1) rfl rfl ?_
  refine L_ic (pc' := 2) rfl q1_0 rfl ?_
  refine L_s (pc' := 3) rfl rfl ?_
  refine L_ic (pc' := 4) rfl q1_0 rfl ?_
  refine L_s (pc' := 5) rfl rfl ?_
  refine L_s (pc' := 6) (st' := [.int 10, .int 0, .ref 144, .int 0, .ref 5]) rfl rfl ?_
  refine L_s (pc' := 7) rfl rfl ?_
  refine L_s (pc' := 8) (st' := [.int 10, .int 10, .int 0, .ref 144, .int 0, .ref 5]) rfl rfl ?_
  refine L_s (pc' := 11) rfl rfl ?_
  refine L_e (b := 10) (by decide) ?_
  refine L_cp (pc' := 14) rfl sh_5 sh_144 (by decide) (by decide) (by decide) (by decide) rfl rfl ?_
  refine L_let fun g1 _ => ?_
  exact L_ret rfl rfl rfl
def x_copyInts_c76  (g : Sg) : Option (Sg) :=
  lt1 (cp2 g 9 0 148 0 (Int32.toNatClampNeg 14)) (fun g1 => (some g1))
theorem e_x_copyInts_c76 {X : Xx} {d : Nat} (hd : 1 ≤ d)  (g : Sg) : ∀ r, x_copyInts_c76  g = some r → EvM zft mtl X d 145 [.ref 9, .ref 148] (SHF, g) ((fun r : Sg => ((none, (SHF, r)) : Out)) r) := by
  obtain ⟨d, rfl⟩ : ∃ d0, d = d0 + 1 := ⟨d - 1, by omega⟩
  have hd : 0 ≤ d := by omega
  refine E_in (f := (fun r : Sg => ((none, (SHF, r)) : Out))) rfl (Nat.le_of_ble_eq_true rfl) ?_
  unfold x_copyInts_c76
  change Lt X d none k_145 _ 0 [some (.ref 9), some (.ref 148)] [] g _
  refine L_s (pc' := 1) rfl rfl ?_
  refine L_ic (pc' := 2) rfl q1_0 rfl ?_
  refine L_s (pc' := 3) rfl rfl ?_
  refine L_ic (pc' := 4) rfl q1_0 rfl ?_
  refine L_s (pc' := 5) rfl rfl ?_
  refine L_s (pc' := 6) (st' := [.int 14, .int 0, .ref 148, .int 0, .ref 9]) rfl rfl ?_
  refine L_s (pc' := 7) rfl rfl ?_
  refine L_s (pc' := 8) (st' := [.int 14, .int 14, .int 0, .ref 148, .int 0, .ref 9]) rfl rfl ?_
  refine L_s (pc' := 11) rfl rfl ?_
  refine L_e (b := 14) (by decide) ?_
  refine L_cp (pc' := 14) rfl sh_9 sh_148 (by decide) (by decide) (by decide) (by decide) rfl rfl ?_
  refine L_let fun g1 _ => ?_
  exact L_ret rfl rfl rfl
def x_copyInts_c77  (g : Sg) : Option (Sg) :=
  lt1 (cp2 g 10 0 149 0 (Int32.toNatClampNeg 14)) (fun g1 => (some g1))
theorem e_x_copyInts_c77 {X : Xx} {d : Nat} (hd : 1 ≤ d)  (g : Sg) : ∀ r, x_copyInts_c77  g = some r → EvM zft mtl X d 145 [.ref 10, .ref 149] (SHF, g) ((fun r : Sg => ((none, (SHF, r)) : Out)) r) := by
  obtain ⟨d, rfl⟩ : ∃ d0, d = d0 + 1 := ⟨d - 1, by omega⟩
  have hd : 0 ≤ d := by omega
  refine E_in (f := (fun r : Sg => ((none, (SHF, r)) : Out))) rfl (Nat.le_of_ble_eq_true rfl) ?_
  unfold x_copyInts_c77
  change Lt X d none k_145 _ 0 [some (.ref 10), some (.ref 149)] [] g _
  refine L_s (pc' := 1) rfl rfl ?_
  refine L_ic (pc' := 2) rfl q1_0 rfl ?_
  refine L_s (pc' := 3) rfl rfl ?_
  refine L_ic (pc' := 4) rfl q1_0 rfl ?_
  refine L_s (pc' := 5) rfl rfl ?_
  refine L_s (pc' := 6) (st' := [.int 14, .int 0, .ref 149, .int 0, .ref 10]) rfl rfl ?_
  refine L_s (pc' := 7) rfl rfl ?_
  refine L_s (pc' := 8) (st' := [.int 14, .int 14, .int 0, .ref 149, .int 0, .ref 10]) rfl rfl ?_
  refine L_s (pc' := 11) rfl rfl ?_
  refine L_e (b := 14) (by decide) ?_
  refine L_cp (pc' := 14) rfl sh_10 sh_149 (by decide) (by decide) (by decide) (by decide) rfl rfl ?_
  refine L_let fun g1 _ => ?_
  exact L_ret rfl rfl rfl
def x_copyInts_c78  (g : Sg) : Option (Sg) :=
  lt1 (cp2 g 11 0 150 0 (Int32.toNatClampNeg 14)) (fun g1 => (some g1))
theorem e_x_copyInts_c78 {X : Xx} {d : Nat} (hd : 1 ≤ d)  (g : Sg) : ∀ r, x_copyInts_c78  g = some r → EvM zft mtl X d 145 [.ref 11, .ref 150] (SHF, g) ((fun r : Sg => ((none, (SHF, r)) : Out)) r) := by
  obtain ⟨d, rfl⟩ : ∃ d0, d = d0 + 1 := ⟨d - 1, by omega⟩
  have hd : 0 ≤ d := by omega
  refine E_in (f := (fun r : Sg => ((none, (SHF, r)) : Out))) rfl (Nat.le_of_ble_eq_true rfl) ?_
  unfold x_copyInts_c78
  change Lt X d none k_145 _ 0 [some (.ref 11), some (.ref 150)] [] g _
  refine L_s (pc' := 1) rfl rfl ?_
  refine L_ic (pc' := 2) rfl q1_0 rfl ?_
  refine L_s (pc' := 3) rfl rfl ?_
  refine L_ic (pc' := 4) rfl q1_0 rfl ?_
  refine L_s (pc' := 5) rfl rfl ?_
  refine L_s (pc' := 6) (st' := [.int 14, .int 0, .ref 150, .int 0, .ref 11]) rfl rfl ?_
  refine L_s (pc' := 7) rfl rfl ?_
  refine L_s (pc' := 8) (st' := [.int 14, .int 14, .int 0, .ref 150, .int 0, .ref 11]) rfl rfl ?_
  refine L_s (pc' := 11) rfl rfl ?_
  refine L_e (b := 14) (by decide) ?_
  refine L_cp (pc' := 14) rfl sh_11 sh_150 (by decide) (by decide) (by decide) (by decide) rfl rfl ?_
  refine L_let fun g1 _ => ?_
  exact L_ret rfl rfl rfl
def x_copyInts_c79  (g : Sg) : Option (Sg) :=
  lt1 (cp2 g 12 0 151 0 (Int32.toNatClampNeg 14)) (fun g1 => (some g1))
theorem e_x_copyInts_c79 {X : Xx} {d : Nat} (hd : 1 ≤ d)  (g : Sg) : ∀ r, x_copyInts_c79  g = some r → EvM zft mtl X d 145 [.ref 12, .ref 151] (SHF, g) ((fun r : Sg => ((none, (SHF, r)) : Out)) r) := by
  obtain ⟨d, rfl⟩ : ∃ d0, d = d0 + 1 := ⟨d - 1, by omega⟩
  have hd : 0 ≤ d := by omega
  refine E_in (f := (fun r : Sg => ((none, (SHF, r)) : Out))) rfl (Nat.le_of_ble_eq_true rfl) ?_
  unfold x_copyInts_c79
  change Lt X d none k_145 _ 0 [some (.ref 12), some (.ref 151)] [] g _
  refine L_s (pc' := 1) rfl rfl ?_
  refine L_ic (pc' := 2) rfl q1_0 rfl ?_
  refine L_s (pc' := 3) rfl rfl ?_
  refine L_ic (pc' := 4) rfl q1_0 rfl ?_
  refine L_s (pc' := 5) rfl rfl ?_
  refine L_s (pc' := 6) (st' := [.int 14, .int 0, .ref 151, .int 0, .ref 12]) rfl rfl ?_
  refine L_s (pc' := 7) rfl rfl ?_
  refine L_s (pc' := 8) (st' := [.int 14, .int 14, .int 0, .ref 151, .int 0, .ref 12]) rfl rfl ?_
  refine L_s (pc' := 11) rfl rfl ?_
  refine L_e (b := 14) (by decide) ?_
  refine L_cp (pc' := 14) rfl sh_12 sh_151 (by decide) (by decide) (by decide) (by decide) rfl rfl ?_
  refine L_let fun g1 _ => ?_
  exact L_ret rfl rfl rfl
def x_copyInts_c80  (g : Sg) : Option (Sg) :=
  lt1 (cp2 g 13 0 152 0 (Int32.toNatClampNeg 14)) (fun g1 => (some g1))
theorem e_x_copyInts_c80 {X : Xx} {d : Nat} (hd : 1 ≤ d)  (g : Sg) : ∀ r, x_copyInts_c80  g = some r → EvM zft mtl X d 145 [.ref 13, .ref 152] (SHF, g) ((fun r : Sg => ((none, (SHF, r)) : Out)) r) := by
  obtain ⟨d, rfl⟩ : ∃ d0, d = d0 + 1 := ⟨d - 1, by omega⟩
  have hd : 0 ≤ d := by omega
  refine E_in (f := (fun r : Sg => ((none, (SHF, r)) : Out))) rfl (Nat.le_of_ble_eq_true rfl) ?_
  unfold x_copyInts_c80
  change Lt X d none k_145 _ 0 [some (.ref 13), some (.ref 152)] [] g _
  refine L_s (pc' := 1) rfl rfl ?_
  refine L_ic (pc' := 2) rfl q1_0 rfl ?_
  refine L_s (pc' := 3) rfl rfl ?_
  refine L_ic (pc' := 4) rfl q1_0 rfl ?_
  refine L_s (pc' := 5) rfl rfl ?_
  refine L_s (pc' := 6) (st' := [.int 14, .int 0, .ref 152, .int 0, .ref 13]) rfl rfl ?_
  refine L_s (pc' := 7) rfl rfl ?_
  refine L_s (pc' := 8) (st' := [.int 14, .int 14, .int 0, .ref 152, .int 0, .ref 13]) rfl rfl ?_
  refine L_s (pc' := 11) rfl rfl ?_
  refine L_e (b := 14) (by decide) ?_
  refine L_cp (pc' := 14) rfl sh_13 sh_152 (by decide) (by decide) (by decide) (by decide) rfl rfl ?_
  refine L_let fun g1 _ => ?_
  exact L_ret rfl rfl rfl
def x_copyInts_c81  (g : Sg) : Option (Sg) :=
  lt1 (cp2 g 14 0 153 0 (Int32.toNatClampNeg 14)) (fun g1 => (some g1))
theorem e_x_copyInts_c81 {X : Xx} {d : Nat} (hd : 1 ≤ d)  (g : Sg) : ∀ r, x_copyInts_c81  g = some r → EvM zft mtl X d 145 [.ref 14, .ref 153] (SHF, g) ((fun r : Sg => ((none, (SHF, r)) : Out)) r) := by
  obtain ⟨d, rfl⟩ : ∃ d0, d = d0 + 1 := ⟨d - 1, by omega⟩
  have hd : 0 ≤ d := by omega
  refine E_in (f := (fun r : Sg => ((none, (SHF, r)) : Out))) rfl (Nat.le_of_ble_eq_true rfl) ?_
  unfold x_copyInts_c81
  change Lt X d none k_145 _ 0 [some (.ref 14), some (.ref 153)] [] g _
  refine L_s (pc' := 1) rfl rfl ?_
  refine L_ic (pc' := 2) rfl q1_0 rfl ?_
  refine L_s (pc' := 3) rfl rfl ?_
  refine L_ic (pc' := 4) rfl q1_0 rfl ?_
  refine L_s (pc' := 5) rfl rfl ?_
  refine L_s (pc' := 6) (st' := [.int 14, .int 0, .ref 153, .int 0, .ref 14]) rfl rfl ?_
  refine L_s (pc' := 7) rfl rfl ?_
  refine L_s (pc' := 8) (st' := [.int 14, .int 14, .int 0, .ref 153, .int 0, .ref 14]) rfl rfl ?_
  refine L_s (pc' := 11) rfl rfl ?_
  refine L_e (b := 14) (by decide) ?_
  refine L_cp (pc' := 14) rfl sh_14 sh_153 (by decide) (by decide) (by decide) (by decide) rfl rfl ?_
  refine L_let fun g1 _ => ?_
  exact L_ret rfl rfl rfl
def x_copyFlags_c7  (g : Sg) : Option (Sg) :=
  lt1 (cp2 g 15 0 154 0 (Int32.toNatClampNeg 14)) (fun g1 => (some g1))
theorem e_x_copyFlags_c7 {X : Xx} {d : Nat} (hd : 1 ≤ d)  (g : Sg) : ∀ r, x_copyFlags_c7  g = some r → EvM zft mtl X d 147 [.ref 15, .ref 154] (SHF, g) ((fun r : Sg => ((none, (SHF, r)) : Out)) r) := by
  obtain ⟨d, rfl⟩ : ∃ d0, d = d0 + 1 := ⟨d - 1, by omega⟩
  have hd : 0 ≤ d := by omega
  refine E_in (f := (fun r : Sg => ((none, (SHF, r)) : Out))) rfl (Nat.le_of_ble_eq_true rfl) ?_
  unfold x_copyFlags_c7
  change Lt X d none k_147 _ 0 [some (.ref 15), some (.ref 154)] [] g _
  refine L_s (pc' := 1) rfl rfl ?_
  refine L_ic (pc' := 2) rfl q1_0 rfl ?_
  refine L_s (pc' := 3) rfl rfl ?_
  refine L_ic (pc' := 4) rfl q1_0 rfl ?_
  refine L_s (pc' := 5) rfl rfl ?_
  refine L_s (pc' := 6) (st' := [.int 14, .int 0, .ref 154, .int 0, .ref 15]) rfl rfl ?_
  refine L_s (pc' := 7) rfl rfl ?_
  refine L_s (pc' := 8) (st' := [.int 14, .int 14, .int 0, .ref 154, .int 0, .ref 15]) rfl rfl ?_
  refine L_s (pc' := 11) rfl rfl ?_
  refine L_e (b := 14) (by decide) ?_
  refine L_cp (pc' := 14) rfl sh_15 sh_154 (by decide) (by decide) (by decide) (by decide) rfl rfl ?_
  refine L_let fun g1 _ => ?_
  exact L_ret rfl rfl rfl
def x_copyInts_c82  (g : Sg) : Option (Sg) :=
  lt1 (cp2 g 7 0 146 0 (Int32.toNatClampNeg 10)) (fun g1 => (some g1))
theorem e_x_copyInts_c82 {X : Xx} {d : Nat} (hd : 1 ≤ d)  (g : Sg) : ∀ r, x_copyInts_c82  g = some r → EvM zft mtl X d 145 [.ref 7, .ref 146] (SHF, g) ((fun r : Sg => ((none, (SHF, r)) : Out)) r) := by
  obtain ⟨d, rfl⟩ : ∃ d0, d = d0 + 1 := ⟨d - 1, by omega⟩
  have hd : 0 ≤ d := by omega
  refine E_in (f := (fun r : Sg => ((none, (SHF, r)) : Out))) rfl (Nat.le_of_ble_eq_true rfl) ?_
  unfold x_copyInts_c82
  change Lt X d none k_145 _ 0 [some (.ref 7), some (.ref 146)] [] g _
  refine L_s (pc' := 1) rfl rfl ?_
  refine L_ic (pc' := 2) rfl q1_0 rfl ?_
  refine L_s (pc' := 3) rfl rfl ?_
  refine L_ic (pc' := 4) rfl q1_0 rfl ?_
  refine L_s (pc' := 5) rfl rfl ?_
  refine L_s (pc' := 6) (st' := [.int 10, .int 0, .ref 146, .int 0, .ref 7]) rfl rfl ?_
  refine L_s (pc' := 7) rfl rfl ?_
  refine L_s (pc' := 8) (st' := [.int 10, .int 10, .int 0, .ref 146, .int 0, .ref 7]) rfl rfl ?_
  refine L_s (pc' := 11) rfl rfl ?_
  refine L_e (b := 10) (by decide) ?_
  refine L_cp (pc' := 14) rfl sh_7 sh_146 (by decide) (by decide) (by decide) (by decide) rfl rfl ?_
  refine L_let fun g1 _ => ?_
  exact L_ret rfl rfl rfl
def x_copyInts_c83  (g : Sg) : Option (Sg) :=
  lt1 (cp2 g 17 0 156 0 (Int32.toNatClampNeg 126)) (fun g1 => (some g1))
theorem e_x_copyInts_c83 {X : Xx} {d : Nat} (hd : 1 ≤ d)  (g : Sg) : ∀ r, x_copyInts_c83  g = some r → EvM zft mtl X d 145 [.ref 17, .ref 156] (SHF, g) ((fun r : Sg => ((none, (SHF, r)) : Out)) r) := by
  obtain ⟨d, rfl⟩ : ∃ d0, d = d0 + 1 := ⟨d - 1, by omega⟩
  have hd : 0 ≤ d := by omega
  refine E_in (f := (fun r : Sg => ((none, (SHF, r)) : Out))) rfl (Nat.le_of_ble_eq_true rfl) ?_
  unfold x_copyInts_c83
  change Lt X d none k_145 _ 0 [some (.ref 17), some (.ref 156)] [] g _
  refine L_s (pc' := 1) rfl rfl ?_
  refine L_ic (pc' := 2) rfl q1_0 rfl ?_
  refine L_s (pc' := 3) rfl rfl ?_
  refine L_ic (pc' := 4) rfl q1_0 rfl ?_
  refine L_s (pc' := 5) rfl rfl ?_
  refine L_s (pc' := 6) (st' := [.int 126, .int 0, .ref 156, .int 0, .ref 17]) rfl rfl ?_
  refine L_s (pc' := 7) rfl rfl ?_
  refine L_s (pc' := 8) (st' := [.int 126, .int 126, .int 0, .ref 156, .int 0, .ref 17]) rfl rfl ?_
  refine L_s (pc' := 11) rfl rfl ?_
  refine L_e (b := 126) (by decide) ?_
  refine L_cp (pc' := 14) rfl sh_17 sh_156 (by decide) (by decide) (by decide) (by decide) rfl rfl ?_
  refine L_let fun g1 _ => ?_
  exact L_ret rfl rfl rfl
def x_copyInts_c84  (g : Sg) : Option (Sg) :=
  lt1 (cp2 g 8 0 147 0 (Int32.toNatClampNeg 10)) (fun g1 => (some g1))
theorem e_x_copyInts_c84 {X : Xx} {d : Nat} (hd : 1 ≤ d)  (g : Sg) : ∀ r, x_copyInts_c84  g = some r → EvM zft mtl X d 145 [.ref 8, .ref 147] (SHF, g) ((fun r : Sg => ((none, (SHF, r)) : Out)) r) := by
  obtain ⟨d, rfl⟩ : ∃ d0, d = d0 + 1 := ⟨d - 1, by omega⟩
  have hd : 0 ≤ d := by omega
  refine E_in (f := (fun r : Sg => ((none, (SHF, r)) : Out))) rfl (Nat.le_of_ble_eq_true rfl) ?_
  unfold x_copyInts_c84
  change Lt X d none k_145 _ 0 [some (.ref 8), some (.ref 147)] [] g _
  refine L_s (pc' := 1) rfl rfl ?_
  refine L_ic (pc' := 2) rfl q1_0 rfl ?_
  refine L_s (pc' := 3) rfl rfl ?_
  refine L_ic (pc' := 4) rfl q1_0 rfl ?_
  refine L_s (pc' := 5) rfl rfl ?_
  refine L_s (pc' := 6) (st' := [.int 10, .int 0, .ref 147, .int 0, .ref 8]) rfl rfl ?_
  refine L_s (pc' := 7) rfl rfl ?_
  refine L_s (pc' := 8) (st' := [.int 10, .int 10, .int 0, .ref 147, .int 0, .ref 8]) rfl rfl ?_
  refine L_s (pc' := 11) rfl rfl ?_
  refine L_e (b := 10) (by decide) ?_
  refine L_cp (pc' := 14) rfl sh_8 sh_147 (by decide) (by decide) (by decide) (by decide) rfl rfl ?_
  refine L_let fun g1 _ => ?_
  exact L_ret rfl rfl rfl
def x_copyInts_c85  (g : Sg) : Option (Sg) :=
  lt1 (cp2 g 18 0 157 0 (Int32.toNatClampNeg 126)) (fun g1 => (some g1))
theorem e_x_copyInts_c85 {X : Xx} {d : Nat} (hd : 1 ≤ d)  (g : Sg) : ∀ r, x_copyInts_c85  g = some r → EvM zft mtl X d 145 [.ref 18, .ref 157] (SHF, g) ((fun r : Sg => ((none, (SHF, r)) : Out)) r) := by
  obtain ⟨d, rfl⟩ : ∃ d0, d = d0 + 1 := ⟨d - 1, by omega⟩
  have hd : 0 ≤ d := by omega
  refine E_in (f := (fun r : Sg => ((none, (SHF, r)) : Out))) rfl (Nat.le_of_ble_eq_true rfl) ?_
  unfold x_copyInts_c85
  change Lt X d none k_145 _ 0 [some (.ref 18), some (.ref 157)] [] g _
  refine L_s (pc' := 1) rfl rfl ?_
  refine L_ic (pc' := 2) rfl q1_0 rfl ?_
  refine L_s (pc' := 3) rfl rfl ?_
  refine L_ic (pc' := 4) rfl q1_0 rfl ?_
  refine L_s (pc' := 5) rfl rfl ?_
  refine L_s (pc' := 6) (st' := [.int 126, .int 0, .ref 157, .int 0, .ref 18]) rfl rfl ?_
  refine L_s (pc' := 7) rfl rfl ?_
  refine L_s (pc' := 8) (st' := [.int 126, .int 126, .int 0, .ref 157, .int 0, .ref 18]) rfl rfl ?_
  refine L_s (pc' := 11) rfl rfl ?_
  refine L_e (b := 126) (by decide) ?_
  refine L_cp (pc' := 14) rfl sh_18 sh_157 (by decide) (by decide) (by decide) (by decide) rfl rfl ?_
  refine L_let fun g1 _ => ?_
  exact L_ret rfl rfl rfl
def x_copyInts_c86  (g : Sg) : Option (Sg) :=
  lt1 (cp2 g 19 0 158 0 (Int32.toNatClampNeg 2)) (fun g1 => (some g1))
theorem e_x_copyInts_c86 {X : Xx} {d : Nat} (hd : 1 ≤ d)  (g : Sg) : ∀ r, x_copyInts_c86  g = some r → EvM zft mtl X d 145 [.ref 19, .ref 158] (SHF, g) ((fun r : Sg => ((none, (SHF, r)) : Out)) r) := by
  obtain ⟨d, rfl⟩ : ∃ d0, d = d0 + 1 := ⟨d - 1, by omega⟩
  have hd : 0 ≤ d := by omega
  refine E_in (f := (fun r : Sg => ((none, (SHF, r)) : Out))) rfl (Nat.le_of_ble_eq_true rfl) ?_
  unfold x_copyInts_c86
  change Lt X d none k_145 _ 0 [some (.ref 19), some (.ref 158)] [] g _
  refine L_s (pc' := 1) rfl rfl ?_
  refine L_ic (pc' := 2) rfl q1_0 rfl ?_
  refine L_s (pc' := 3) rfl rfl ?_
  refine L_ic (pc' := 4) rfl q1_0 rfl ?_
  refine L_s (pc' := 5) rfl rfl ?_
  refine L_s (pc' := 6) (st' := [.int 2, .int 0, .ref 158, .int 0, .ref 19]) rfl rfl ?_
  refine L_s (pc' := 7) rfl rfl ?_
  refine L_s (pc' := 8) (st' := [.int 2, .int 2, .int 0, .ref 158, .int 0, .ref 19]) rfl rfl ?_
  refine L_s (pc' := 11) rfl rfl ?_
  refine L_e (b := 2) (by decide) ?_
  refine L_cp (pc' := 14) rfl sh_19 sh_158 (by decide) (by decide) (by decide) (by decide) rfl rfl ?_
  refine L_let fun g1 _ => ?_
  exact L_ret rfl rfl rfl
def x_copyInts_c87  (g : Sg) : Option (Sg) :=
  lt1 (cp2 g 20 0 159 0 (Int32.toNatClampNeg 2)) (fun g1 => (some g1))
theorem e_x_copyInts_c87 {X : Xx} {d : Nat} (hd : 1 ≤ d)  (g : Sg) : ∀ r, x_copyInts_c87  g = some r → EvM zft mtl X d 145 [.ref 20, .ref 159] (SHF, g) ((fun r : Sg => ((none, (SHF, r)) : Out)) r) := by
  obtain ⟨d, rfl⟩ : ∃ d0, d = d0 + 1 := ⟨d - 1, by omega⟩
  have hd : 0 ≤ d := by omega
  refine E_in (f := (fun r : Sg => ((none, (SHF, r)) : Out))) rfl (Nat.le_of_ble_eq_true rfl) ?_
  unfold x_copyInts_c87
  change Lt X d none k_145 _ 0 [some (.ref 20), some (.ref 159)] [] g _
  refine L_s (pc' := 1) rfl rfl ?_
  refine L_ic (pc' := 2) rfl q1_0 rfl ?_
  refine L_s (pc' := 3) rfl rfl ?_
  refine L_ic (pc' := 4) rfl q1_0 rfl ?_
  refine L_s (pc' := 5) rfl rfl ?_
  refine L_s (pc' := 6) (st' := [.int 2, .int 0, .ref 159, .int 0, .ref 20]) rfl rfl ?_
  refine L_s (pc' := 7) rfl rfl ?_
  refine L_s (pc' := 8) (st' := [.int 2, .int 2, .int 0, .ref 159, .int 0, .ref 20]) rfl rfl ?_
  refine L_s (pc' := 11) rfl rfl ?_
  refine L_e (b := 2) (by decide) ?_
  refine L_cp (pc' := 14) rfl sh_20 sh_159 (by decide) (by decide) (by decide) (by decide) rfl rfl ?_
  refine L_let fun g1 _ => ?_
  exact L_ret rfl rfl rfl
def x_copyInts_c88  (g : Sg) : Option (Sg) :=
  lt1 (cp2 g 21 0 160 0 (Int32.toNatClampNeg 2)) (fun g1 => (some g1))
theorem e_x_copyInts_c88 {X : Xx} {d : Nat} (hd : 1 ≤ d)  (g : Sg) : ∀ r, x_copyInts_c88  g = some r → EvM zft mtl X d 145 [.ref 21, .ref 160] (SHF, g) ((fun r : Sg => ((none, (SHF, r)) : Out)) r) := by
  obtain ⟨d, rfl⟩ : ∃ d0, d = d0 + 1 := ⟨d - 1, by omega⟩
  have hd : 0 ≤ d := by omega
  refine E_in (f := (fun r : Sg => ((none, (SHF, r)) : Out))) rfl (Nat.le_of_ble_eq_true rfl) ?_
  unfold x_copyInts_c88
  change Lt X d none k_145 _ 0 [some (.ref 21), some (.ref 160)] [] g _
  refine L_s (pc' := 1) rfl rfl ?_
  refine L_ic (pc' := 2) rfl q1_0 rfl ?_
  refine L_s (pc' := 3) rfl rfl ?_
  refine L_ic (pc' := 4) rfl q1_0 rfl ?_
  refine L_s (pc' := 5) rfl rfl ?_
  refine L_s (pc' := 6) (st' := [.int 2, .int 0, .ref 160, .int 0, .ref 21]) rfl rfl ?_
  refine L_s (pc' := 7) rfl rfl ?_
  refine L_s (pc' := 8) (st' := [.int 2, .int 2, .int 0, .ref 160, .int 0, .ref 21]) rfl rfl ?_
  refine L_s (pc' := 11) rfl rfl ?_
  refine L_e (b := 2) (by decide) ?_
  refine L_cp (pc' := 14) rfl sh_21 sh_160 (by decide) (by decide) (by decide) (by decide) rfl rfl ?_
  refine L_let fun g1 _ => ?_
  exact L_ret rfl rfl rfl
def net_copyFrom_c2  (g : Sg) : Option (Sg) :=
  lt1 (up2 g 141 0 (g 2 0)) (fun g1 => lt1 (up2 g1 141 1 (g1 2 1)) (fun g2 => lt1 (up2 g2 141 6 (g2 2 6)) (fun g3 => Option.bind (x_copyInts_c73 g3) (fun g4 => Option.bind (x_copyInts_c74 g4) (fun g5 => Option.bind (x_copyInts_c75 g5) (fun g6 => Option.bind (x_copyInts_c76 g6) (fun g7 => Option.bind (x_copyInts_c77 g7) (fun g8 => Option.bind (x_copyInts_c78 g8) (fun g9 => Option.bind (x_copyInts_c79 g9) (fun g10 => Option.bind (x_copyInts_c80 g10) (fun g11 => Option.bind (x_copyInts_c81 g11) (fun g12 => Option.bind (x_copyFlags_c7 g12) (fun g13 => Option.bind (x_copyInts_c82 g13) (fun g14 => Option.bind (x_copyInts_c83 g14) (fun g15 => Option.bind (x_copyInts_c84 g15) (fun g16 => Option.bind (x_copyInts_c85 g16) (fun g17 => Option.bind (x_copyInts_c86 g17) (fun g18 => Option.bind (x_copyInts_c87 g18) (fun g19 => Option.bind (x_copyInts_c88 g19) (fun g20 => (some g20)))))))))))))))))))))
theorem e_net_copyFrom_c2 {X : Xx} {d : Nat} (hd : 2 ≤ d)  (g : Sg) : ∀ r, net_copyFrom_c2  g = some r → EvM zft mtl X d 42 [.ref 141, .ref 2] (SHF, g) ((fun r : Sg => ((none, (SHF, r)) : Out)) r) := by
  obtain ⟨d, rfl⟩ : ∃ d0, d = d0 + 1 := ⟨d - 1, by omega⟩
  have hd : 1 ≤ d := by omega
  refine E_in (f := (fun r : Sg => ((none, (SHF, r)) : Out))) rfl (Nat.le_of_ble_eq_true rfl) ?_
  unfold net_copyFrom_c2
  change Lt X d none k_42 _ 0 [some (.ref 141), some (.ref 2), none] [] g _
  refine L_s (pc' := 1) rfl rfl ?_
  refine L_s (pc' := 2) rfl rfl ?_
  refine L_gf (pc' := 5) rfl fi_2_0 rfl ?_
  refine L_pf (pc' := 8) rfl sh_141 (by decide) rfl rfl ?_
  refine L_let fun g1 _ => ?_
  refine L_s (pc' := 9) rfl rfl ?_
  refine L_s (pc' := 10) rfl rfl ?_
  refine L_gf (pc' := 13) rfl fi_2_1 rfl ?_
  refine L_pf (pc' := 16) rfl sh_141 (by decide) rfl rfl ?_
  refine L_let fun g2 _ => ?_
  refine L_s (pc' := 17) rfl rfl ?_
  refine L_s (pc' := 18) rfl rfl ?_
  refine L_gf (pc' := 21) rfl fi_2_6 rfl ?_
  refine L_pf (pc' := 24) rfl sh_141 (by decide) rfl rfl ?_
  refine L_let fun g3 _ => ?_
  refine L_s (pc' := 25) rfl rfl ?_
  refine L_gf (pc' := 28) rfl fr_2_2 rfl ?_
  refine L_s (pc' := 29) rfl rfl ?_
  refine L_gf (pc' := 32) rfl fr_141_2 rfl ?_
  refine L_cv (pc' := 35) (as := [.ref 3, .ref 142]) (rest := []) rfl rfl (e_x_copyInts_c73 (by omega) _) rfl fun g4 => ?_
  refine L_s (pc' := 36) rfl rfl ?_
  refine L_gf (pc' := 39) rfl fr_2_3 rfl ?_
  refine L_s (pc' := 40) rfl rfl ?_
  refine L_gf (pc' := 43) rfl fr_141_3 rfl ?_
  refine L_cv (pc' := 46) (as := [.ref 4, .ref 143]) (rest := []) rfl rfl (e_x_copyInts_c74 (by omega) _) rfl fun g5 => ?_
  refine L_s (pc' := 47) rfl rfl ?_
  refine L_gf (pc' := 50) rfl fr_2_4 rfl ?_
  refine L_s (pc' := 51) rfl rfl ?_
  refine L_gf (pc' := 54) rfl fr_141_4 rfl ?_
  refine L_cv (pc' := 57) (as := [.ref 5, .ref 144]) (rest := []) rfl rfl (e_x_copyInts_c75 (by omega) _) rfl fun g6 => ?_
  refine L_s (pc' := 58) rfl rfl ?_
  refine L_gf (pc' := 61) rfl fr_2_7 rfl ?_
  refine L_s (pc' := 62) rfl rfl ?_
  refine L_gf (pc' := 65) rfl fr_141_7 rfl ?_
  refine L_cv (pc' := 68) (as := [.ref 9, .ref 148]) (rest := []) rfl rfl (e_x_copyInts_c76 (by omega) _) rfl fun g7 => ?_
  refine L_s (pc' := 69) rfl rfl ?_
  refine L_gf (pc' := 72) rfl fr_2_8 rfl ?_
  refine L_s (pc' := 73) rfl rfl ?_
  refine L_gf (pc' := 76) rfl fr_141_8 rfl ?_
  refine L_cv (pc' := 79) (as := [.ref 10, .ref 149]) (rest := []) rfl rfl (e_x_copyInts_c77 (by omega) _) rfl fun g8 => ?_
  refine L_s (pc' := 80) rfl rfl ?_
  refine L_gf (pc' := 83) rfl fr_2_9 rfl ?_
  refine L_s (pc' := 84) rfl rfl ?_
  refine L_gf (pc' := 87) rfl fr_141_9 rfl ?_
  refine L_cv (pc' := 90) (as := [.ref 11, .ref 150]) (rest := []) rfl rfl (e_x_copyInts_c78 (by omega) _) rfl fun g9 => ?_
  refine L_s (pc' := 91) rfl rfl ?_
  refine L_gf (pc' := 94) rfl fr_2_10 rfl ?_
  refine L_s (pc' := 95) rfl rfl ?_
  refine L_gf (pc' := 98) rfl fr_141_10 rfl ?_
  refine L_cv (pc' := 101) (as := [.ref 12, .ref 151]) (rest := []) rfl rfl (e_x_copyInts_c79 (by omega) _) rfl fun g10 => ?_
  refine L_s (pc' := 102) rfl rfl ?_
  refine L_gf (pc' := 105) rfl fr_2_11 rfl ?_
  refine L_s (pc' := 106) rfl rfl ?_
  refine L_gf (pc' := 109) rfl fr_141_11 rfl ?_
  refine L_cv (pc' := 112) (as := [.ref 13, .ref 152]) (rest := []) rfl rfl (e_x_copyInts_c80 (by omega) _) rfl fun g11 => ?_
  refine L_s (pc' := 113) rfl rfl ?_
  refine L_gf (pc' := 116) rfl fr_2_12 rfl ?_
  refine L_s (pc' := 117) rfl rfl ?_
  refine L_gf (pc' := 120) rfl fr_141_12 rfl ?_
  refine L_cv (pc' := 123) (as := [.ref 14, .ref 153]) (rest := []) rfl rfl (e_x_copyInts_c81 (by omega) _) rfl fun g12 => ?_
  refine L_s (pc' := 124) rfl rfl ?_
  refine L_gf (pc' := 127) rfl fr_2_13 rfl ?_
  refine L_s (pc' := 128) rfl rfl ?_
  refine L_gf (pc' := 131) rfl fr_141_13 rfl ?_
  refine L_cv (pc' := 134) (as := [.ref 15, .ref 154]) (rest := []) rfl rfl (e_x_copyFlags_c7 (by omega) _) rfl fun g13 => ?_
  refine L_ic (pc' := 135) rfl q1_0 rfl ?_
  refine L_s (pc' := 136) (L' := [some (.ref 141), some (.ref 2), some (.int 0)]) rfl rfl ?_
  refine L_s (pc' := 137) rfl rfl ?_
  refine L_ic (pc' := 138) rfl q1_2 rfl ?_
  refine L_bf (c := (2 : Int32) ≤ 0) (t := 177) (n := 141) rfl rfl (by decide) ?_
  refine L_s (pc' := 142) rfl rfl ?_
  refine L_gf (pc' := 145) rfl fr_2_5 rfl ?_
  refine L_s (pc' := 146) rfl rfl ?_
  refine L_aa (pc' := 147) rfl sh_6 (by decide) (by decide) rfl rfl ?_
  refine L_s (pc' := 148) rfl rfl ?_
  refine L_gf (pc' := 151) rfl fr_141_5 rfl ?_
  refine L_s (pc' := 152) rfl rfl ?_
  refine L_aa (pc' := 153) rfl sh_145 (by decide) (by decide) rfl rfl ?_
  refine L_cv (pc' := 156) (as := [.ref 7, .ref 146]) (rest := []) rfl rfl (e_x_copyInts_c82 (by omega) _) rfl fun g14 => ?_
  refine L_s (pc' := 157) rfl rfl ?_
  refine L_gf (pc' := 160) rfl fr_2_14 rfl ?_
  refine L_s (pc' := 161) rfl rfl ?_
  refine L_aa (pc' := 162) rfl sh_16 (by decide) (by decide) rfl rfl ?_
  refine L_s (pc' := 163) rfl rfl ?_
  refine L_gf (pc' := 166) rfl fr_141_14 rfl ?_
  refine L_s (pc' := 167) rfl rfl ?_
  refine L_aa (pc' := 168) rfl sh_155 (by decide) (by decide) rfl rfl ?_
  refine L_cv (pc' := 171) (as := [.ref 17, .ref 156]) (rest := []) rfl rfl (e_x_copyInts_c83 (by omega) _) rfl fun g15 => ?_
  refine L_ii (pc' := 174) (L' := [some (.ref 141), some (.ref 2), some (.int 1)]) rfl rfl q1_1 (by decide : (0 : Int32) + 1 = 1) rfl rfl ?_
  refine L_s (pc' := 136) rfl rfl ?_
  refine L_s (pc' := 137) rfl rfl ?_
  refine L_ic (pc' := 138) rfl q1_2 rfl ?_
  refine L_bf (c := (2 : Int32) ≤ 1) (t := 177) (n := 141) rfl rfl (by decide) ?_
  refine L_s (pc' := 142) rfl rfl ?_
  refine L_gf (pc' := 145) rfl fr_2_5 rfl ?_
  refine L_s (pc' := 146) rfl rfl ?_
  refine L_aa (pc' := 147) rfl sh_6 (by decide) (by decide) rfl rfl ?_
  refine L_s (pc' := 148) rfl rfl ?_
  refine L_gf (pc' := 151) rfl fr_141_5 rfl ?_
  refine L_s (pc' := 152) rfl rfl ?_
  refine L_aa (pc' := 153) rfl sh_145 (by decide) (by decide) rfl rfl ?_
  refine L_cv (pc' := 156) (as := [.ref 8, .ref 147]) (rest := []) rfl rfl (e_x_copyInts_c84 (by omega) _) rfl fun g16 => ?_
  refine L_s (pc' := 157) rfl rfl ?_
  refine L_gf (pc' := 160) rfl fr_2_14 rfl ?_
  refine L_s (pc' := 161) rfl rfl ?_
  refine L_aa (pc' := 162) rfl sh_16 (by decide) (by decide) rfl rfl ?_
  refine L_s (pc' := 163) rfl rfl ?_
  refine L_gf (pc' := 166) rfl fr_141_14 rfl ?_
  refine L_s (pc' := 167) rfl rfl ?_
  refine L_aa (pc' := 168) rfl sh_155 (by decide) (by decide) rfl rfl ?_
  refine L_cv (pc' := 171) (as := [.ref 18, .ref 157]) (rest := []) rfl rfl (e_x_copyInts_c85 (by omega) _) rfl fun g17 => ?_
  refine L_ii (pc' := 174) (L' := [some (.ref 141), some (.ref 2), some (.int 2)]) rfl rfl q1_1 (by decide : (1 : Int32) + 1 = 2) rfl rfl ?_
  refine L_s (pc' := 136) rfl rfl ?_
  refine L_s (pc' := 137) rfl rfl ?_
  refine L_ic (pc' := 138) rfl q1_2 rfl ?_
  refine L_bt (c := (2 : Int32) ≤ 2) (t := 177) (n := 141) rfl rfl (by decide) ?_
  refine L_s (pc' := 178) rfl rfl ?_
  refine L_gf (pc' := 181) rfl fr_2_15 rfl ?_
  refine L_s (pc' := 182) rfl rfl ?_
  refine L_gf (pc' := 185) rfl fr_141_15 rfl ?_
  refine L_cv (pc' := 188) (as := [.ref 19, .ref 158]) (rest := []) rfl rfl (e_x_copyInts_c86 (by omega) _) rfl fun g18 => ?_
  refine L_s (pc' := 189) rfl rfl ?_
  refine L_gf (pc' := 192) rfl fr_2_16 rfl ?_
  refine L_s (pc' := 193) rfl rfl ?_
  refine L_gf (pc' := 196) rfl fr_141_16 rfl ?_
  refine L_cv (pc' := 199) (as := [.ref 20, .ref 159]) (rest := []) rfl rfl (e_x_copyInts_c87 (by omega) _) rfl fun g19 => ?_
  refine L_s (pc' := 200) rfl rfl ?_
  refine L_gf (pc' := 203) rfl fr_2_17 rfl ?_
  refine L_s (pc' := 204) rfl rfl ?_
  refine L_gf (pc' := 207) rfl fr_141_17 rfl ?_
  refine L_cv (pc' := 210) (as := [.ref 21, .ref 160]) (rest := []) rfl rfl (e_x_copyInts_c88 (by omega) _) rfl fun g20 => ?_
  exact L_ret rfl rfl rfl
def x_copyInts_c89  (g : Sg) : Option (Sg) :=
  lt1 (cp2 g 23 0 162 0 (Int32.toNatClampNeg 8)) (fun g1 => (some g1))
theorem e_x_copyInts_c89 {X : Xx} {d : Nat} (hd : 1 ≤ d)  (g : Sg) : ∀ r, x_copyInts_c89  g = some r → EvM zft mtl X d 145 [.ref 23, .ref 162] (SHF, g) ((fun r : Sg => ((none, (SHF, r)) : Out)) r) := by
  obtain ⟨d, rfl⟩ : ∃ d0, d = d0 + 1 := ⟨d - 1, by omega⟩
  have hd : 0 ≤ d := by omega
  refine E_in (f := (fun r : Sg => ((none, (SHF, r)) : Out))) rfl (Nat.le_of_ble_eq_true rfl) ?_
  unfold x_copyInts_c89
  change Lt X d none k_145 _ 0 [some (.ref 23), some (.ref 162)] [] g _
  refine L_s (pc' := 1) rfl rfl ?_
  refine L_ic (pc' := 2) rfl q1_0 rfl ?_
  refine L_s (pc' := 3) rfl rfl ?_
  refine L_ic (pc' := 4) rfl q1_0 rfl ?_
  refine L_s (pc' := 5) rfl rfl ?_
  refine L_s (pc' := 6) (st' := [.int 8, .int 0, .ref 162, .int 0, .ref 23]) rfl rfl ?_
  refine L_s (pc' := 7) rfl rfl ?_
  refine L_s (pc' := 8) (st' := [.int 8, .int 8, .int 0, .ref 162, .int 0, .ref 23]) rfl rfl ?_
  refine L_s (pc' := 11) rfl rfl ?_
  refine L_e (b := 8) (by decide) ?_
  refine L_cp (pc' := 14) rfl sh_23 sh_162 (by decide) (by decide) (by decide) (by decide) rfl rfl ?_
  refine L_let fun g1 _ => ?_
  exact L_ret rfl rfl rfl
def x_copyInts_c90  (g : Sg) : Option (Sg) :=
  lt1 (cp2 g 24 0 163 0 (Int32.toNatClampNeg 120)) (fun g1 => (some g1))
theorem e_x_copyInts_c90 {X : Xx} {d : Nat} (hd : 1 ≤ d)  (g : Sg) : ∀ r, x_copyInts_c90  g = some r → EvM zft mtl X d 145 [.ref 24, .ref 163] (SHF, g) ((fun r : Sg => ((none, (SHF, r)) : Out)) r) := by
  obtain ⟨d, rfl⟩ : ∃ d0, d = d0 + 1 := ⟨d - 1, by omega⟩
  have hd : 0 ≤ d := by omega
  refine E_in (f := (fun r : Sg => ((none, (SHF, r)) : Out))) rfl (Nat.le_of_ble_eq_true rfl) ?_
  unfold x_copyInts_c90
  change Lt X d none k_145 _ 0 [some (.ref 24), some (.ref 163)] [] g _
  refine L_s (pc' := 1) rfl rfl ?_
  refine L_ic (pc' := 2) rfl q1_0 rfl ?_
  refine L_s (pc' := 3) rfl rfl ?_
  refine L_ic (pc' := 4) rfl q1_0 rfl ?_
  refine L_s (pc' := 5) rfl rfl ?_
  refine L_s (pc' := 6) (st' := [.int 120, .int 0, .ref 163, .int 0, .ref 24]) rfl rfl ?_
  refine L_s (pc' := 7) rfl rfl ?_
  refine L_s (pc' := 8) (st' := [.int 120, .int 120, .int 0, .ref 163, .int 0, .ref 24]) rfl rfl ?_
  refine L_s (pc' := 11) rfl rfl ?_
  refine L_e (b := 120) (by decide) ?_
  refine L_cp (pc' := 14) rfl sh_24 sh_163 (by decide) (by decide) (by decide) (by decide) rfl rfl ?_
  refine L_let fun g1 _ => ?_
  exact L_ret rfl rfl rfl
def x_copyInts_c91  (g : Sg) : Option (Sg) :=
  lt1 (cp2 g 25 0 164 0 (Int32.toNatClampNeg 120)) (fun g1 => (some g1))
theorem e_x_copyInts_c91 {X : Xx} {d : Nat} (hd : 1 ≤ d)  (g : Sg) : ∀ r, x_copyInts_c91  g = some r → EvM zft mtl X d 145 [.ref 25, .ref 164] (SHF, g) ((fun r : Sg => ((none, (SHF, r)) : Out)) r) := by
  obtain ⟨d, rfl⟩ : ∃ d0, d = d0 + 1 := ⟨d - 1, by omega⟩
  have hd : 0 ≤ d := by omega
  refine E_in (f := (fun r : Sg => ((none, (SHF, r)) : Out))) rfl (Nat.le_of_ble_eq_true rfl) ?_
  unfold x_copyInts_c91
  change Lt X d none k_145 _ 0 [some (.ref 25), some (.ref 164)] [] g _
  refine L_s (pc' := 1) rfl rfl ?_
  refine L_ic (pc' := 2) rfl q1_0 rfl ?_
  refine L_s (pc' := 3) rfl rfl ?_
  refine L_ic (pc' := 4) rfl q1_0 rfl ?_
  refine L_s (pc' := 5) rfl rfl ?_
  refine L_s (pc' := 6) (st' := [.int 120, .int 0, .ref 164, .int 0, .ref 25]) rfl rfl ?_
  refine L_s (pc' := 7) rfl rfl ?_
  refine L_s (pc' := 8) (st' := [.int 120, .int 120, .int 0, .ref 164, .int 0, .ref 25]) rfl rfl ?_
  refine L_s (pc' := 11) rfl rfl ?_
  refine L_e (b := 120) (by decide) ?_
  refine L_cp (pc' := 14) rfl sh_25 sh_164 (by decide) (by decide) (by decide) (by decide) rfl rfl ?_
  refine L_let fun g1 _ => ?_
  exact L_ret rfl rfl rfl
def x_copyInts_c92  (g : Sg) : Option (Sg) :=
  lt1 (cp2 g 26 0 165 0 (Int32.toNatClampNeg 120)) (fun g1 => (some g1))
theorem e_x_copyInts_c92 {X : Xx} {d : Nat} (hd : 1 ≤ d)  (g : Sg) : ∀ r, x_copyInts_c92  g = some r → EvM zft mtl X d 145 [.ref 26, .ref 165] (SHF, g) ((fun r : Sg => ((none, (SHF, r)) : Out)) r) := by
  obtain ⟨d, rfl⟩ : ∃ d0, d = d0 + 1 := ⟨d - 1, by omega⟩
  have hd : 0 ≤ d := by omega
  refine E_in (f := (fun r : Sg => ((none, (SHF, r)) : Out))) rfl (Nat.le_of_ble_eq_true rfl) ?_
  unfold x_copyInts_c92
  change Lt X d none k_145 _ 0 [some (.ref 26), some (.ref 165)] [] g _
  refine L_s (pc' := 1) rfl rfl ?_
  refine L_ic (pc' := 2) rfl q1_0 rfl ?_
  refine L_s (pc' := 3) rfl rfl ?_
  refine L_ic (pc' := 4) rfl q1_0 rfl ?_
  refine L_s (pc' := 5) rfl rfl ?_
  refine L_s (pc' := 6) (st' := [.int 120, .int 0, .ref 165, .int 0, .ref 26]) rfl rfl ?_
  refine L_s (pc' := 7) rfl rfl ?_
  refine L_s (pc' := 8) (st' := [.int 120, .int 120, .int 0, .ref 165, .int 0, .ref 26]) rfl rfl ?_
  refine L_s (pc' := 11) rfl rfl ?_
  refine L_e (b := 120) (by decide) ?_
  refine L_cp (pc' := 14) rfl sh_26 sh_165 (by decide) (by decide) (by decide) (by decide) rfl rfl ?_
  refine L_let fun g1 _ => ?_
  exact L_ret rfl rfl rfl
def x_copyInts_c93  (g : Sg) : Option (Sg) :=
  lt1 (cp2 g 27 0 166 0 (Int32.toNatClampNeg 120)) (fun g1 => (some g1))
theorem e_x_copyInts_c93 {X : Xx} {d : Nat} (hd : 1 ≤ d)  (g : Sg) : ∀ r, x_copyInts_c93  g = some r → EvM zft mtl X d 145 [.ref 27, .ref 166] (SHF, g) ((fun r : Sg => ((none, (SHF, r)) : Out)) r) := by
  obtain ⟨d, rfl⟩ : ∃ d0, d = d0 + 1 := ⟨d - 1, by omega⟩
  have hd : 0 ≤ d := by omega
  refine E_in (f := (fun r : Sg => ((none, (SHF, r)) : Out))) rfl (Nat.le_of_ble_eq_true rfl) ?_
  unfold x_copyInts_c93
  change Lt X d none k_145 _ 0 [some (.ref 27), some (.ref 166)] [] g _
  refine L_s (pc' := 1) rfl rfl ?_
  refine L_ic (pc' := 2) rfl q1_0 rfl ?_
  refine L_s (pc' := 3) rfl rfl ?_
  refine L_ic (pc' := 4) rfl q1_0 rfl ?_
  refine L_s (pc' := 5) rfl rfl ?_
  refine L_s (pc' := 6) (st' := [.int 120, .int 0, .ref 166, .int 0, .ref 27]) rfl rfl ?_
  refine L_s (pc' := 7) rfl rfl ?_
  refine L_s (pc' := 8) (st' := [.int 120, .int 120, .int 0, .ref 166, .int 0, .ref 27]) rfl rfl ?_
  refine L_s (pc' := 11) rfl rfl ?_
  refine L_e (b := 120) (by decide) ?_
  refine L_cp (pc' := 14) rfl sh_27 sh_166 (by decide) (by decide) (by decide) (by decide) rfl rfl ?_
  refine L_let fun g1 _ => ?_
  exact L_ret rfl rfl rfl
def x_copyInts_c94  (g : Sg) : Option (Sg) :=
  lt1 (cp2 g 28 0 167 0 (Int32.toNatClampNeg 120)) (fun g1 => (some g1))
theorem e_x_copyInts_c94 {X : Xx} {d : Nat} (hd : 1 ≤ d)  (g : Sg) : ∀ r, x_copyInts_c94  g = some r → EvM zft mtl X d 145 [.ref 28, .ref 167] (SHF, g) ((fun r : Sg => ((none, (SHF, r)) : Out)) r) := by
  obtain ⟨d, rfl⟩ : ∃ d0, d = d0 + 1 := ⟨d - 1, by omega⟩
  have hd : 0 ≤ d := by omega
  refine E_in (f := (fun r : Sg => ((none, (SHF, r)) : Out))) rfl (Nat.le_of_ble_eq_true rfl) ?_
  unfold x_copyInts_c94
  change Lt X d none k_145 _ 0 [some (.ref 28), some (.ref 167)] [] g _
  refine L_s (pc' := 1) rfl rfl ?_
  refine L_ic (pc' := 2) rfl q1_0 rfl ?_
  refine L_s (pc' := 3) rfl rfl ?_
  refine L_ic (pc' := 4) rfl q1_0 rfl ?_
  refine L_s (pc' := 5) rfl rfl ?_
  refine L_s (pc' := 6) (st' := [.int 120, .int 0, .ref 167, .int 0, .ref 28]) rfl rfl ?_
  refine L_s (pc' := 7) rfl rfl ?_
  refine L_s (pc' := 8) (st' := [.int 120, .int 120, .int 0, .ref 167, .int 0, .ref 28]) rfl rfl ?_
  refine L_s (pc' := 11) rfl rfl ?_
  refine L_e (b := 120) (by decide) ?_
  refine L_cp (pc' := 14) rfl sh_28 sh_167 (by decide) (by decide) (by decide) (by decide) rfl rfl ?_
  refine L_let fun g1 _ => ?_
  exact L_ret rfl rfl rfl
def x_copyInts_c95  (g : Sg) : Option (Sg) :=
  lt1 (cp2 g 29 0 168 0 (Int32.toNatClampNeg 120)) (fun g1 => (some g1))
theorem e_x_copyInts_c95 {X : Xx} {d : Nat} (hd : 1 ≤ d)  (g : Sg) : ∀ r, x_copyInts_c95  g = some r → EvM zft mtl X d 145 [.ref 29, .ref 168] (SHF, g) ((fun r : Sg => ((none, (SHF, r)) : Out)) r) := by
  obtain ⟨d, rfl⟩ : ∃ d0, d = d0 + 1 := ⟨d - 1, by omega⟩
  have hd : 0 ≤ d := by omega
  refine E_in (f := (fun r : Sg => ((none, (SHF, r)) : Out))) rfl (Nat.le_of_ble_eq_true rfl) ?_
  unfold x_copyInts_c95
  change Lt X d none k_145 _ 0 [some (.ref 29), some (.ref 168)] [] g _
  refine L_s (pc' := 1) rfl rfl ?_
  refine L_ic (pc' := 2) rfl q1_0 rfl ?_
  refine L_s (pc' := 3) rfl rfl ?_
  refine L_ic (pc' := 4) rfl q1_0 rfl ?_
  refine L_s (pc' := 5) rfl rfl ?_
  refine L_s (pc' := 6) (st' := [.int 120, .int 0, .ref 168, .int 0, .ref 29]) rfl rfl ?_
  refine L_s (pc' := 7) rfl rfl ?_
  refine L_s (pc' := 8) (st' := [.int 120, .int 120, .int 0, .ref 168, .int 0, .ref 29]) rfl rfl ?_
  refine L_s (pc' := 11) rfl rfl ?_
  refine L_e (b := 120) (by decide) ?_
  refine L_cp (pc' := 14) rfl sh_29 sh_168 (by decide) (by decide) (by decide) (by decide) rfl rfl ?_
  refine L_let fun g1 _ => ?_
  exact L_ret rfl rfl rfl
def x_copyBytes_c4  (g : Sg) : Option (Sg) :=
  lt1 (cp2 g 30 0 169 0 (Int32.toNatClampNeg 2400)) (fun g1 => (some g1))
theorem e_x_copyBytes_c4 {X : Xx} {d : Nat} (hd : 1 ≤ d)  (g : Sg) : ∀ r, x_copyBytes_c4  g = some r → EvM zft mtl X d 146 [.ref 30, .ref 169] (SHF, g) ((fun r : Sg => ((none, (SHF, r)) : Out)) r) := by
  obtain ⟨d, rfl⟩ : ∃ d0, d = d0 + 1 := ⟨d - 1, by omega⟩
  have hd : 0 ≤ d := by omega
  refine E_in (f := (fun r : Sg => ((none, (SHF, r)) : Out))) rfl (Nat.le_of_ble_eq_true rfl) ?_
  unfold x_copyBytes_c4
  change Lt X d none k_146 _ 0 [some (.ref 30), some (.ref 169)] [] g _
  refine L_s (pc' := 1) rfl rfl ?_
  refine L_ic (pc' := 2) rfl q1_0 rfl ?_
  refine L_s (pc' := 3) rfl rfl ?_
  refine L_ic (pc' := 4) rfl q1_0 rfl ?_
  refine L_s (pc' := 5) rfl rfl ?_
  refine L_s (pc' := 6) (st' := [.int 2400, .int 0, .ref 169, .int 0, .ref 30]) rfl rfl ?_
  refine L_s (pc' := 7) rfl rfl ?_
  refine L_s (pc' := 8) (st' := [.int 2400, .int 2400, .int 0, .ref 169, .int 0, .ref 30]) rfl rfl ?_
  refine L_s (pc' := 11) rfl rfl ?_
  refine L_e (b := 2400) (by decide) ?_
  refine L_cp (pc' := 14) rfl sh_30 sh_169 (by decide) (by decide) (by decide) (by decide) rfl rfl ?_
  refine L_let fun g1 _ => ?_
  exact L_ret rfl rfl rfl
def rights_copyFrom_c2  (g : Sg) : Option (Sg) :=
  Option.bind (x_copyInts_c89 g) (fun g1 => lt1 (up2 g1 161 1 (g1 22 1)) (fun g2 => Option.bind (x_copyInts_c90 g2) (fun g3 => Option.bind (x_copyInts_c91 g3) (fun g4 => Option.bind (x_copyInts_c92 g4) (fun g5 => Option.bind (x_copyInts_c93 g5) (fun g6 => Option.bind (x_copyInts_c94 g6) (fun g7 => Option.bind (x_copyInts_c95 g7) (fun g8 => lt1 (up2 g8 161 8 (g8 22 8)) (fun g9 => Option.bind (x_copyBytes_c4 g9) (fun g10 => (some g10)))))))))))
theorem e_rights_copyFrom_c2 {X : Xx} {d : Nat} (hd : 2 ≤ d)  (g : Sg) : ∀ r, rights_copyFrom_c2  g = some r → EvM zft mtl X d 77 [.ref 161, .ref 22] (SHF, g) ((fun r : Sg => ((none, (SHF, r)) : Out)) r) := by
  obtain ⟨d, rfl⟩ : ∃ d0, d = d0 + 1 := ⟨d - 1, by omega⟩
  have hd : 1 ≤ d := by omega
  refine E_in (f := (fun r : Sg => ((none, (SHF, r)) : Out))) rfl (Nat.le_of_ble_eq_true rfl) ?_
  unfold rights_copyFrom_c2
  change Lt X d none k_77 _ 0 [some (.ref 161), some (.ref 22)] [] g _
  refine L_s (pc' := 1) rfl rfl ?_
  refine L_gf (pc' := 4) rfl fr_22_0 rfl ?_
  refine L_s (pc' := 5) rfl rfl ?_
  refine L_gf (pc' := 8) rfl fr_161_0 rfl ?_
  refine L_cv (pc' := 11) (as := [.ref 23, .ref 162]) (rest := []) rfl rfl (e_x_copyInts_c89 (by omega) _) rfl fun g1 => ?_
  refine L_s (pc' := 12) rfl rfl ?_
  refine L_s (pc' := 13) rfl rfl ?_
  refine L_gf (pc' := 16) rfl fi_22_1 rfl ?_
  refine L_pf (pc' := 19) rfl sh_161 (by decide) rfl rfl ?_
  refine L_let fun g2 _ => ?_
  refine L_s (pc' := 20) rfl rfl ?_
  refine L_gf (pc' := 23) rfl fr_22_2 rfl ?_
  refine L_s (pc' := 24) rfl rfl ?_
  refine L_gf (pc' := 27) rfl fr_161_2 rfl ?_
  refine L_cv (pc' := 30) (as := [.ref 24, .ref 163]) (rest := []) rfl rfl (e_x_copyInts_c90 (by omega) _) rfl fun g3 => ?_
  refine L_s (pc' := 31) rfl rfl ?_
  refine L_gf (pc' := 34) rfl fr_22_3 rfl ?_
  refine L_s (pc' := 35) rfl rfl ?_
  refine L_gf (pc' := 38) rfl fr_161_3 rfl ?_
  refine L_cv (pc' := 41) (as := [.ref 25, .ref 164]) (rest := []) rfl rfl (e_x_copyInts_c91 (by omega) _) rfl fun g4 => ?_
  refine L_s (pc' := 42) rfl rfl ?_
  refine L_gf (pc' := 45) rfl fr_22_4 rfl ?_
  refine L_s (pc' := 46) rfl rfl ?_
  refine L_gf (pc' := 49) rfl fr_161_4 rfl ?_
  refine L_cv (pc' := 52) (as := [.ref 26, .ref 165]) (rest := []) rfl rfl (e_x_copyInts_c92 (by omega) _) rfl fun g5 => ?_
  refine L_s (pc' := 53) rfl rfl ?_
  refine L_gf (pc' := 56) rfl fr_22_5 rfl ?_
  refine L_s (pc' := 57) rfl rfl ?_
  refine L_gf (pc' := 60) rfl fr_161_5 rfl ?_
  refine L_cv (pc' := 63) (as := [.ref 27, .ref 166]) (rest := []) rfl rfl (e_x_copyInts_c93 (by omega) _) rfl fun g6 => ?_
  refine L_s (pc' := 64) rfl rfl ?_
  refine L_gf (pc' := 67) rfl fr_22_6 rfl ?_
  refine L_s (pc' := 68) rfl rfl ?_
  refine L_gf (pc' := 71) rfl fr_161_6 rfl ?_
  refine L_cv (pc' := 74) (as := [.ref 28, .ref 167]) (rest := []) rfl rfl (e_x_copyInts_c94 (by omega) _) rfl fun g7 => ?_
  refine L_s (pc' := 75) rfl rfl ?_
  refine L_gf (pc' := 78) rfl fr_22_7 rfl ?_
  refine L_s (pc' := 79) rfl rfl ?_
  refine L_gf (pc' := 82) rfl fr_161_7 rfl ?_
  refine L_cv (pc' := 85) (as := [.ref 29, .ref 168]) (rest := []) rfl rfl (e_x_copyInts_c95 (by omega) _) rfl fun g8 => ?_
  refine L_s (pc' := 86) rfl rfl ?_
  refine L_s (pc' := 87) rfl rfl ?_
  refine L_gf (pc' := 90) rfl fi_22_8 rfl ?_
  refine L_pf (pc' := 93) rfl sh_161 (by decide) rfl rfl ?_
  refine L_let fun g9 _ => ?_
  refine L_s (pc' := 94) rfl rfl ?_
  refine L_gf (pc' := 97) rfl fr_22_9 rfl ?_
  refine L_s (pc' := 98) rfl rfl ?_
  refine L_gf (pc' := 101) rfl fr_161_9 rfl ?_
  refine L_cv (pc' := 104) (as := [.ref 30, .ref 169]) (rest := []) rfl rfl (e_x_copyBytes_c4 (by omega) _) rfl fun g10 => ?_
  exact L_ret rfl rfl rfl
def x_copyBytes_c5  (g : Sg) : Option (Sg) :=
  lt1 (cp2 g 32 0 171 0 (Int32.toNatClampNeg 500)) (fun g1 => (some g1))
theorem e_x_copyBytes_c5 {X : Xx} {d : Nat} (hd : 1 ≤ d)  (g : Sg) : ∀ r, x_copyBytes_c5  g = some r → EvM zft mtl X d 146 [.ref 32, .ref 171] (SHF, g) ((fun r : Sg => ((none, (SHF, r)) : Out)) r) := by
  obtain ⟨d, rfl⟩ : ∃ d0, d = d0 + 1 := ⟨d - 1, by omega⟩
  have hd : 0 ≤ d := by omega
  refine E_in (f := (fun r : Sg => ((none, (SHF, r)) : Out))) rfl (Nat.le_of_ble_eq_true rfl) ?_
  unfold x_copyBytes_c5
  change Lt X d none k_146 _ 0 [some (.ref 32), some (.ref 171)] [] g _
  refine L_s (pc' := 1) rfl rfl ?_
  refine L_ic (pc' := 2) rfl q1_0 rfl ?_
  refine L_s (pc' := 3) rfl rfl ?_
  refine L_ic (pc' := 4) rfl q1_0 rfl ?_
  refine L_s (pc' := 5) rfl rfl ?_
  refine L_s (pc' := 6) (st' := [.int 500, .int 0, .ref 171, .int 0, .ref 32]) rfl rfl ?_
  refine L_s (pc' := 7) rfl rfl ?_
  refine L_s (pc' := 8) (st' := [.int 500, .int 500, .int 0, .ref 171, .int 0, .ref 32]) rfl rfl ?_
  refine L_s (pc' := 11) rfl rfl ?_
  refine L_e (b := 500) (by decide) ?_
  refine L_cp (pc' := 14) rfl sh_32 sh_171 (by decide) (by decide) (by decide) (by decide) rfl rfl ?_
  refine L_let fun g1 _ => ?_
  exact L_ret rfl rfl rfl
def x_copyInts_c96  (g : Sg) : Option (Sg) :=
  lt1 (cp2 g 34 0 173 0 (Int32.toNatClampNeg 16)) (fun g1 => (some g1))
theorem e_x_copyInts_c96 {X : Xx} {d : Nat} (hd : 1 ≤ d)  (g : Sg) : ∀ r, x_copyInts_c96  g = some r → EvM zft mtl X d 145 [.ref 34, .ref 173] (SHF, g) ((fun r : Sg => ((none, (SHF, r)) : Out)) r) := by
  obtain ⟨d, rfl⟩ : ∃ d0, d = d0 + 1 := ⟨d - 1, by omega⟩
  have hd : 0 ≤ d := by omega
  refine E_in (f := (fun r : Sg => ((none, (SHF, r)) : Out))) rfl (Nat.le_of_ble_eq_true rfl) ?_
  unfold x_copyInts_c96
  change Lt X d none k_145 _ 0 [some (.ref 34), some (.ref 173)] [] g _
  refine L_s (pc' := 1) rfl rfl ?_
  refine L_ic (pc' := 2) rfl q1_0 rfl ?_
  refine L_s (pc' := 3) rfl rfl ?_
  refine L_ic (pc' := 4) rfl q1_0 rfl ?_
  refine L_s (pc' := 5) rfl rfl ?_
  refine L_s (pc' := 6) (st' := [.int 16, .int 0, .ref 173, .int 0, .ref 34]) rfl rfl ?_
  refine L_s (pc' := 7) rfl rfl ?_
  refine L_s (pc' := 8) (st' := [.int 16, .int 16, .int 0, .ref 173, .int 0, .ref 34]) rfl rfl ?_
  refine L_s (pc' := 11) rfl rfl ?_
  refine L_e (b := 16) (by decide) ?_
  refine L_cp (pc' := 14) rfl sh_34 sh_173 (by decide) (by decide) (by decide) (by decide) rfl rfl ?_
  refine L_let fun g1 _ => ?_
  exact L_ret rfl rfl rfl
def x_copyInts_c97  (g : Sg) : Option (Sg) :=
  lt1 (cp2 g 35 0 174 0 (Int32.toNatClampNeg 16)) (fun g1 => (some g1))
theorem e_x_copyInts_c97 {X : Xx} {d : Nat} (hd : 1 ≤ d)  (g : Sg) : ∀ r, x_copyInts_c97  g = some r → EvM zft mtl X d 145 [.ref 35, .ref 174] (SHF, g) ((fun r : Sg => ((none, (SHF, r)) : Out)) r) := by
  obtain ⟨d, rfl⟩ : ∃ d0, d = d0 + 1 := ⟨d - 1, by omega⟩
  have hd : 0 ≤ d := by omega
  refine E_in (f := (fun r : Sg => ((none, (SHF, r)) : Out))) rfl (Nat.le_of_ble_eq_true rfl) ?_
  unfold x_copyInts_c97
  change Lt X d none k_145 _ 0 [some (.ref 35), some (.ref 174)] [] g _
  refine L_s (pc' := 1) rfl rfl ?_
  refine L_ic (pc' := 2) rfl q1_0 rfl ?_
  refine L_s (pc' := 3) rfl rfl ?_
  refine L_ic (pc' := 4) rfl q1_0 rfl ?_
  refine L_s (pc' := 5) rfl rfl ?_
  refine L_s (pc' := 6) (st' := [.int 16, .int 0, .ref 174, .int 0, .ref 35]) rfl rfl ?_
  refine L_s (pc' := 7) rfl rfl ?_
  refine L_s (pc' := 8) (st' := [.int 16, .int 16, .int 0, .ref 174, .int 0, .ref 35]) rfl rfl ?_
  refine L_s (pc' := 11) rfl rfl ?_
  refine L_e (b := 16) (by decide) ?_
  refine L_cp (pc' := 14) rfl sh_35 sh_174 (by decide) (by decide) (by decide) (by decide) rfl rfl ?_
  refine L_let fun g1 _ => ?_
  exact L_ret rfl rfl rfl
def x_copyInts_c98  (g : Sg) : Option (Sg) :=
  lt1 (cp2 g 36 0 175 0 (Int32.toNatClampNeg 16)) (fun g1 => (some g1))
theorem e_x_copyInts_c98 {X : Xx} {d : Nat} (hd : 1 ≤ d)  (g : Sg) : ∀ r, x_copyInts_c98  g = some r → EvM zft mtl X d 145 [.ref 36, .ref 175] (SHF, g) ((fun r : Sg => ((none, (SHF, r)) : Out)) r) := by
  obtain ⟨d, rfl⟩ : ∃ d0, d = d0 + 1 := ⟨d - 1, by omega⟩
  have hd : 0 ≤ d := by omega
  refine E_in (f := (fun r : Sg => ((none, (SHF, r)) : Out))) rfl (Nat.le_of_ble_eq_true rfl) ?_
  unfold x_copyInts_c98
  change Lt X d none k_145 _ 0 [some (.ref 36), some (.ref 175)] [] g _
  refine L_s (pc' := 1) rfl rfl ?_
  refine L_ic (pc' := 2) rfl q1_0 rfl ?_
  refine L_s (pc' := 3) rfl rfl ?_
  refine L_ic (pc' := 4) rfl q1_0 rfl ?_
  refine L_s (pc' := 5) rfl rfl ?_
  refine L_s (pc' := 6) (st' := [.int 16, .int 0, .ref 175, .int 0, .ref 36]) rfl rfl ?_
  refine L_s (pc' := 7) rfl rfl ?_
  refine L_s (pc' := 8) (st' := [.int 16, .int 16, .int 0, .ref 175, .int 0, .ref 36]) rfl rfl ?_
  refine L_s (pc' := 11) rfl rfl ?_
  refine L_e (b := 16) (by decide) ?_
  refine L_cp (pc' := 14) rfl sh_36 sh_175 (by decide) (by decide) (by decide) (by decide) rfl rfl ?_
  refine L_let fun g1 _ => ?_
  exact L_ret rfl rfl rfl
def x_copyFlags_c8  (g : Sg) : Option (Sg) :=
  lt1 (cp2 g 37 0 176 0 (Int32.toNatClampNeg 64)) (fun g1 => (some g1))
theorem e_x_copyFlags_c8 {X : Xx} {d : Nat} (hd : 1 ≤ d)  (g : Sg) : ∀ r, x_copyFlags_c8  g = some r → EvM zft mtl X d 147 [.ref 37, .ref 176] (SHF, g) ((fun r : Sg => ((none, (SHF, r)) : Out)) r) := by
  obtain ⟨d, rfl⟩ : ∃ d0, d = d0 + 1 := ⟨d - 1, by omega⟩
  have hd : 0 ≤ d := by omega
  refine E_in (f := (fun r : Sg => ((none, (SHF, r)) : Out))) rfl (Nat.le_of_ble_eq_true rfl) ?_
  unfold x_copyFlags_c8
  change Lt X d none k_147 _ 0 [some (.ref 37), some (.ref 176)] [] g _
  refine L_s (pc' := 1) rfl rfl ?_
  refine L_ic (pc' := 2) rfl q1_0 rfl ?_
  refine L_s (pc' := 3) rfl rfl ?_
  refine L_ic (pc' := 4) rfl q1_0 rfl ?_
  refine L_s (pc' := 5) rfl rfl ?_
  refine L_s (pc' := 6) (st' := [.int 64, .int 0, .ref 176, .int 0, .ref 37]) rfl rfl ?_
  refine L_s (pc' := 7) rfl rfl ?_
  refine L_s (pc' := 8) (st' := [.int 64, .int 64, .int 0, .ref 176, .int 0, .ref 37]) rfl rfl ?_
  refine L_s (pc' := 11) rfl rfl ?_
  refine L_e (b := 64) (by decide) ?_
  refine L_cp (pc' := 14) rfl sh_37 sh_176 (by decide) (by decide) (by decide) (by decide) rfl rfl ?_
  refine L_let fun g1 _ => ?_
  exact L_ret rfl rfl rfl
def x_copyInts_c99  (g : Sg) : Option (Sg) :=
  lt1 (cp2 g 38 0 177 0 (Int32.toNatClampNeg 64)) (fun g1 => (some g1))
theorem e_x_copyInts_c99 {X : Xx} {d : Nat} (hd : 1 ≤ d)  (g : Sg) : ∀ r, x_copyInts_c99  g = some r → EvM zft mtl X d 145 [.ref 38, .ref 177] (SHF, g) ((fun r : Sg => ((none, (SHF, r)) : Out)) r) := by
  obtain ⟨d, rfl⟩ : ∃ d0, d = d0 + 1 := ⟨d - 1, by omega⟩
  have hd : 0 ≤ d := by omega
  refine E_in (f := (fun r : Sg => ((none, (SHF, r)) : Out))) rfl (Nat.le_of_ble_eq_true rfl) ?_
  unfold x_copyInts_c99
  change Lt X d none k_145 _ 0 [some (.ref 38), some (.ref 177)] [] g _
  refine L_s (pc' := 1) rfl rfl ?_
  refine L_ic (pc' := 2) rfl q1_0 rfl ?_
  refine L_s (pc' := 3) rfl rfl ?_
  refine L_ic (pc' := 4) rfl q1_0 rfl ?_
  refine L_s (pc' := 5) rfl rfl ?_
  refine L_s (pc' := 6) (st' := [.int 64, .int 0, .ref 177, .int 0, .ref 38]) rfl rfl ?_
  refine L_s (pc' := 7) rfl rfl ?_
  refine L_s (pc' := 8) (st' := [.int 64, .int 64, .int 0, .ref 177, .int 0, .ref 38]) rfl rfl ?_
  refine L_s (pc' := 11) rfl rfl ?_
  refine L_e (b := 64) (by decide) ?_
  refine L_cp (pc' := 14) rfl sh_38 sh_177 (by decide) (by decide) (by decide) (by decide) rfl rfl ?_
  refine L_let fun g1 _ => ?_
  exact L_ret rfl rfl rfl
def x_copyInts_c100  (g : Sg) : Option (Sg) :=
  lt1 (cp2 g 39 0 178 0 (Int32.toNatClampNeg 64)) (fun g1 => (some g1))
theorem e_x_copyInts_c100 {X : Xx} {d : Nat} (hd : 1 ≤ d)  (g : Sg) : ∀ r, x_copyInts_c100  g = some r → EvM zft mtl X d 145 [.ref 39, .ref 178] (SHF, g) ((fun r : Sg => ((none, (SHF, r)) : Out)) r) := by
  obtain ⟨d, rfl⟩ : ∃ d0, d = d0 + 1 := ⟨d - 1, by omega⟩
  have hd : 0 ≤ d := by omega
  refine E_in (f := (fun r : Sg => ((none, (SHF, r)) : Out))) rfl (Nat.le_of_ble_eq_true rfl) ?_
  unfold x_copyInts_c100
  change Lt X d none k_145 _ 0 [some (.ref 39), some (.ref 178)] [] g _
  refine L_s (pc' := 1) rfl rfl ?_
  refine L_ic (pc' := 2) rfl q1_0 rfl ?_
  refine L_s (pc' := 3) rfl rfl ?_
  refine L_ic (pc' := 4) rfl q1_0 rfl ?_
  refine L_s (pc' := 5) rfl rfl ?_
  refine L_s (pc' := 6) (st' := [.int 64, .int 0, .ref 178, .int 0, .ref 39]) rfl rfl ?_
  refine L_s (pc' := 7) rfl rfl ?_
  refine L_s (pc' := 8) (st' := [.int 64, .int 64, .int 0, .ref 178, .int 0, .ref 39]) rfl rfl ?_
  refine L_s (pc' := 11) rfl rfl ?_
  refine L_e (b := 64) (by decide) ?_
  refine L_cp (pc' := 14) rfl sh_39 sh_178 (by decide) (by decide) (by decide) (by decide) rfl rfl ?_
  refine L_let fun g1 _ => ?_
  exact L_ret rfl rfl rfl
def x_copyInts_c101  (g : Sg) : Option (Sg) :=
  lt1 (cp2 g 40 0 179 0 (Int32.toNatClampNeg 64)) (fun g1 => (some g1))
theorem e_x_copyInts_c101 {X : Xx} {d : Nat} (hd : 1 ≤ d)  (g : Sg) : ∀ r, x_copyInts_c101  g = some r → EvM zft mtl X d 145 [.ref 40, .ref 179] (SHF, g) ((fun r : Sg => ((none, (SHF, r)) : Out)) r) := by
  obtain ⟨d, rfl⟩ : ∃ d0, d = d0 + 1 := ⟨d - 1, by omega⟩
  have hd : 0 ≤ d := by omega
  refine E_in (f := (fun r : Sg => ((none, (SHF, r)) : Out))) rfl (Nat.le_of_ble_eq_true rfl) ?_
  unfold x_copyInts_c101
  change Lt X d none k_145 _ 0 [some (.ref 40), some (.ref 179)] [] g _
  refine L_s (pc' := 1) rfl rfl ?_
  refine L_ic (pc' := 2) rfl q1_0 rfl ?_
  refine L_s (pc' := 3) rfl rfl ?_
  refine L_ic (pc' := 4) rfl q1_0 rfl ?_
  refine L_s (pc' := 5) rfl rfl ?_
  refine L_s (pc' := 6) (st' := [.int 64, .int 0, .ref 179, .int 0, .ref 40]) rfl rfl ?_
  refine L_s (pc' := 7) rfl rfl ?_
  refine L_s (pc' := 8) (st' := [.int 64, .int 64, .int 0, .ref 179, .int 0, .ref 40]) rfl rfl ?_
  refine L_s (pc' := 11) rfl rfl ?_
  refine L_e (b := 64) (by decide) ?_
  refine L_cp (pc' := 14) rfl sh_40 sh_179 (by decide) (by decide) (by decide) (by decide) rfl rfl ?_
  refine L_let fun g1 _ => ?_
  exact L_ret rfl rfl rfl
def lines_copyFrom_c3  (g : Sg) : Option (Sg) :=
  lt1 (up2 g 172 0 (g 33 0)) (fun g1 => Option.bind (x_copyInts_c96 g1) (fun g2 => Option.bind (x_copyInts_c97 g2) (fun g3 => Option.bind (x_copyInts_c98 g3) (fun g4 => Option.bind (x_copyFlags_c8 g4) (fun g5 => Option.bind (x_copyInts_c99 g5) (fun g6 => Option.bind (x_copyInts_c100 g6) (fun g7 => Option.bind (x_copyInts_c101 g7) (fun g8 => (some g8)))))))))
theorem e_lines_copyFrom_c3 {X : Xx} {d : Nat} (hd : 2 ≤ d)  (g : Sg) : ∀ r, lines_copyFrom_c3  g = some r → EvM zft mtl X d 20 [.ref 172, .ref 33] (SHF, g) ((fun r : Sg => ((none, (SHF, r)) : Out)) r) := by
  obtain ⟨d, rfl⟩ : ∃ d0, d = d0 + 1 := ⟨d - 1, by omega⟩
  have hd : 1 ≤ d := by omega
  refine E_in (f := (fun r : Sg => ((none, (SHF, r)) : Out))) rfl (Nat.le_of_ble_eq_true rfl) ?_
  unfold lines_copyFrom_c3
  change Lt X d none k_20 _ 0 [some (.ref 172), some (.ref 33)] [] g _
  refine L_s (pc' := 1) rfl rfl ?_
  refine L_s (pc' := 2) rfl rfl ?_
  refine L_gf (pc' := 5) rfl fi_33_0 rfl ?_
  refine L_pf (pc' := 8) rfl sh_172 (by decide) rfl rfl ?_
  refine L_let fun g1 _ => ?_
  refine L_s (pc' := 9) rfl rfl ?_
  refine L_gf (pc' := 12) rfl fr_33_1 rfl ?_
  refine L_s (pc' := 13) rfl rfl ?_
  refine L_gf (pc' := 16) rfl fr_172_1 rfl ?_
  refine L_cv (pc' := 19) (as := [.ref 34, .ref 173]) (rest := []) rfl rfl (e_x_copyInts_c96 (by omega) _) rfl fun g2 => ?_
  refine L_s (pc' := 20) rfl rfl ?_
  refine L_gf (pc' := 23) rfl fr_33_2 rfl ?_
  refine L_s (pc' := 24) rfl rfl ?_
  refine L_gf (pc' := 27) rfl fr_172_2 rfl ?_
  refine L_cv (pc' := 30) (as := [.ref 35, .ref 174]) (rest := []) rfl rfl (e_x_copyInts_c97 (by omega) _) rfl fun g3 => ?_
  refine L_s (pc' := 31) rfl rfl ?_
  refine L_gf (pc' := 34) rfl fr_33_3 rfl ?_
  refine L_s (pc' := 35) rfl rfl ?_
  refine L_gf (pc' := 38) rfl fr_172_3 rfl ?_
  refine L_cv (pc' := 41) (as := [.ref 36, .ref 175]) (rest := []) rfl rfl (e_x_copyInts_c98 (by omega) _) rfl fun g4 => ?_
  refine L_s (pc' := 42) rfl rfl ?_
  refine L_gf (pc' := 45) rfl fr_33_4 rfl ?_
  refine L_s (pc' := 46) rfl rfl ?_
  refine L_gf (pc' := 49) rfl fr_172_4 rfl ?_
  refine L_cv (pc' := 52) (as := [.ref 37, .ref 176]) (rest := []) rfl rfl (e_x_copyFlags_c8 (by omega) _) rfl fun g5 => ?_
  refine L_s (pc' := 53) rfl rfl ?_
  refine L_gf (pc' := 56) rfl fr_33_5 rfl ?_
  refine L_s (pc' := 57) rfl rfl ?_
  refine L_gf (pc' := 60) rfl fr_172_5 rfl ?_
  refine L_cv (pc' := 63) (as := [.ref 38, .ref 177]) (rest := []) rfl rfl (e_x_copyInts_c99 (by omega) _) rfl fun g6 => ?_
  refine L_s (pc' := 64) rfl rfl ?_
  refine L_gf (pc' := 67) rfl fr_33_6 rfl ?_
  refine L_s (pc' := 68) rfl rfl ?_
  refine L_gf (pc' := 71) rfl fr_172_6 rfl ?_
  refine L_cv (pc' := 74) (as := [.ref 39, .ref 178]) (rest := []) rfl rfl (e_x_copyInts_c100 (by omega) _) rfl fun g7 => ?_
  refine L_s (pc' := 75) rfl rfl ?_
  refine L_gf (pc' := 78) rfl fr_33_7 rfl ?_
  refine L_s (pc' := 79) rfl rfl ?_
  refine L_gf (pc' := 82) rfl fr_172_7 rfl ?_
  refine L_cv (pc' := 85) (as := [.ref 40, .ref 179]) (rest := []) rfl rfl (e_x_copyInts_c101 (by omega) _) rfl fun g8 => ?_
  exact L_ret rfl rfl rfl
def x_copyFlags_c9  (g : Sg) : Option (Sg) :=
  lt1 (cp2 g 41 0 180 0 (Int32.toNatClampNeg 100)) (fun g1 => (some g1))
theorem e_x_copyFlags_c9 {X : Xx} {d : Nat} (hd : 1 ≤ d)  (g : Sg) : ∀ r, x_copyFlags_c9  g = some r → EvM zft mtl X d 147 [.ref 41, .ref 180] (SHF, g) ((fun r : Sg => ((none, (SHF, r)) : Out)) r) := by
  obtain ⟨d, rfl⟩ : ∃ d0, d = d0 + 1 := ⟨d - 1, by omega⟩
  have hd : 0 ≤ d := by omega
  refine E_in (f := (fun r : Sg => ((none, (SHF, r)) : Out))) rfl (Nat.le_of_ble_eq_true rfl) ?_
  unfold x_copyFlags_c9
  change Lt X d none k_147 _ 0 [some (.ref 41), some (.ref 180)] [] g _
  refine L_s (pc' := 1) rfl rfl ?_
  refine L_ic (pc' := 2) rfl q1_0 rfl ?_
  refine L_s (pc' := 3) rfl rfl ?_
  refine L_ic (pc' := 4) rfl q1_0 rfl ?_
  refine L_s (pc' := 5) rfl rfl ?_
  refine L_s (pc' := 6) (st' := [.int 100, .int 0, .ref 180, .int 0, .ref 41]) rfl rfl ?_
  refine L_s (pc' := 7) rfl rfl ?_
  refine L_s (pc' := 8) (st' := [.int 100, .int 100, .int 0, .ref 180, .int 0, .ref 41]) rfl rfl ?_
  refine L_s (pc' := 11) rfl rfl ?_
  refine L_e (b := 100) (by decide) ?_
  refine L_cp (pc' := 14) rfl sh_41 sh_180 (by decide) (by decide) (by decide) (by decide) rfl rfl ?_
  refine L_let fun g1 _ => ?_
  exact L_ret rfl rfl rfl
def law_copyFrom_c2  (g : Sg) : Option (Sg) :=
  lt1 (up2 g 170 0 (g 31 0)) (fun g1 => Option.bind (x_copyBytes_c5 g1) (fun g2 => lt1 (up2 g2 170 2 (g2 31 2)) (fun g3 => lt1 (up2 g3 170 3 (g3 31 3)) (fun g4 => Option.bind (lines_copyFrom_c3 g4) (fun g5 => Option.bind (x_copyFlags_c9 g5) (fun g6 => (some g6)))))))
theorem e_law_copyFrom_c2 {X : Xx} {d : Nat} (hd : 3 ≤ d)  (g : Sg) : ∀ r, law_copyFrom_c2  g = some r → EvM zft mtl X d 18 [.ref 170, .ref 31] (SHF, g) ((fun r : Sg => ((none, (SHF, r)) : Out)) r) := by
  obtain ⟨d, rfl⟩ : ∃ d0, d = d0 + 1 := ⟨d - 1, by omega⟩
  have hd : 2 ≤ d := by omega
  refine E_in (f := (fun r : Sg => ((none, (SHF, r)) : Out))) rfl (Nat.le_of_ble_eq_true rfl) ?_
  unfold law_copyFrom_c2
  change Lt X d none k_18 _ 0 [some (.ref 170), some (.ref 31)] [] g _
  refine L_s (pc' := 1) rfl rfl ?_
  refine L_s (pc' := 2) rfl rfl ?_
  refine L_gf (pc' := 5) rfl fi_31_0 rfl ?_
  refine L_pf (pc' := 8) rfl sh_170 (by decide) rfl rfl ?_
  refine L_let fun g1 _ => ?_
  refine L_s (pc' := 9) rfl rfl ?_
  refine L_gf (pc' := 12) rfl fr_31_1 rfl ?_
  refine L_s (pc' := 13) rfl rfl ?_
  refine L_gf (pc' := 16) rfl fr_170_1 rfl ?_
  refine L_cv (pc' := 19) (as := [.ref 32, .ref 171]) (rest := []) rfl rfl (e_x_copyBytes_c5 (by omega) _) rfl fun g2 => ?_
  refine L_s (pc' := 20) rfl rfl ?_
  refine L_s (pc' := 21) rfl rfl ?_
  refine L_gf (pc' := 24) rfl fi_31_2 rfl ?_
  refine L_pf (pc' := 27) rfl sh_170 (by decide) rfl rfl ?_
  refine L_let fun g3 _ => ?_
  refine L_s (pc' := 28) rfl rfl ?_
  refine L_s (pc' := 29) rfl rfl ?_
  refine L_gf (pc' := 32) rfl fi_31_3 rfl ?_
  refine L_pf (pc' := 35) rfl sh_170 (by decide) rfl rfl ?_
  refine L_let fun g4 _ => ?_
  refine L_s (pc' := 36) rfl rfl ?_
  refine L_gf (pc' := 39) rfl fr_170_4 rfl ?_
  refine L_s (pc' := 40) rfl rfl ?_
  refine L_gf (pc' := 43) rfl fr_31_4 rfl ?_
  refine L_cv (pc' := 46) (as := [.ref 172, .ref 33]) (rest := []) rfl rfl (e_lines_copyFrom_c3 (by omega) _) rfl fun g5 => ?_
  refine L_s (pc' := 47) rfl rfl ?_
  refine L_gf (pc' := 50) rfl fr_31_5 rfl ?_
  refine L_s (pc' := 51) rfl rfl ?_
  refine L_gf (pc' := 54) rfl fr_170_5 rfl ?_
  refine L_cv (pc' := 57) (as := [.ref 41, .ref 180]) (rest := []) rfl rfl (e_x_copyFlags_c9 (by omega) _) rfl fun g6 => ?_
  exact L_ret rfl rfl rfl
def x_copyInts_c102  (g : Sg) : Option (Sg) :=
  lt1 (cp2 g 43 0 182 0 (Int32.toNatClampNeg 150)) (fun g1 => (some g1))
theorem e_x_copyInts_c102 {X : Xx} {d : Nat} (hd : 1 ≤ d)  (g : Sg) : ∀ r, x_copyInts_c102  g = some r → EvM zft mtl X d 145 [.ref 43, .ref 182] (SHF, g) ((fun r : Sg => ((none, (SHF, r)) : Out)) r) := by
  obtain ⟨d, rfl⟩ : ∃ d0, d = d0 + 1 := ⟨d - 1, by omega⟩
  have hd : 0 ≤ d := by omega
  refine E_in (f := (fun r : Sg => ((none, (SHF, r)) : Out))) rfl (Nat.le_of_ble_eq_true rfl) ?_
  unfold x_copyInts_c102
  change Lt X d none k_145 _ 0 [some (.ref 43), some (.ref 182)] [] g _
  refine L_s (pc' := 1) rfl rfl ?_
  refine L_ic (pc' := 2) rfl q1_0 rfl ?_
  refine L_s (pc' := 3) rfl rfl ?_
  refine L_ic (pc' := 4) rfl q1_0 rfl ?_
  refine L_s (pc' := 5) rfl rfl ?_
  refine L_s (pc' := 6) (st' := [.int 150, .int 0, .ref 182, .int 0, .ref 43]) rfl rfl ?_
  refine L_s (pc' := 7) rfl rfl ?_
  refine L_s (pc' := 8) (st' := [.int 150, .int 150, .int 0, .ref 182, .int 0, .ref 43]) rfl rfl ?_
  refine L_s (pc' := 11) rfl rfl ?_
  refine L_e (b := 150) (by decide) ?_
  refine L_cp (pc' := 14) rfl sh_43 sh_182 (by decide) (by decide) (by decide) (by decide) rfl rfl ?_
  refine L_let fun g1 _ => ?_
  exact L_ret rfl rfl rfl
def x_copyInts_c103  (g : Sg) : Option (Sg) :=
  lt1 (cp2 g 44 0 183 0 (Int32.toNatClampNeg 150)) (fun g1 => (some g1))
theorem e_x_copyInts_c103 {X : Xx} {d : Nat} (hd : 1 ≤ d)  (g : Sg) : ∀ r, x_copyInts_c103  g = some r → EvM zft mtl X d 145 [.ref 44, .ref 183] (SHF, g) ((fun r : Sg => ((none, (SHF, r)) : Out)) r) := by
  obtain ⟨d, rfl⟩ : ∃ d0, d = d0 + 1 := ⟨d - 1, by omega⟩
  have hd : 0 ≤ d := by omega
  refine E_in (f := (fun r : Sg => ((none, (SHF, r)) : Out))) rfl (Nat.le_of_ble_eq_true rfl) ?_
  unfold x_copyInts_c103
  change Lt X d none k_145 _ 0 [some (.ref 44), some (.ref 183)] [] g _
  refine L_s (pc' := 1) rfl rfl ?_
  refine L_ic (pc' := 2) rfl q1_0 rfl ?_
  refine L_s (pc' := 3) rfl rfl ?_
  refine L_ic (pc' := 4) rfl q1_0 rfl ?_
  refine L_s (pc' := 5) rfl rfl ?_
  refine L_s (pc' := 6) (st' := [.int 150, .int 0, .ref 183, .int 0, .ref 44]) rfl rfl ?_
  refine L_s (pc' := 7) rfl rfl ?_
  refine L_s (pc' := 8) (st' := [.int 150, .int 150, .int 0, .ref 183, .int 0, .ref 44]) rfl rfl ?_
  refine L_s (pc' := 11) rfl rfl ?_
  refine L_e (b := 150) (by decide) ?_
  refine L_cp (pc' := 14) rfl sh_44 sh_183 (by decide) (by decide) (by decide) (by decide) rfl rfl ?_
  refine L_let fun g1 _ => ?_
  exact L_ret rfl rfl rfl
def x_copyInts_c104  (g : Sg) : Option (Sg) :=
  lt1 (cp2 g 45 0 184 0 (Int32.toNatClampNeg 150)) (fun g1 => (some g1))
theorem e_x_copyInts_c104 {X : Xx} {d : Nat} (hd : 1 ≤ d)  (g : Sg) : ∀ r, x_copyInts_c104  g = some r → EvM zft mtl X d 145 [.ref 45, .ref 184] (SHF, g) ((fun r : Sg => ((none, (SHF, r)) : Out)) r) := by
  obtain ⟨d, rfl⟩ : ∃ d0, d = d0 + 1 := ⟨d - 1, by omega⟩
  have hd : 0 ≤ d := by omega
  refine E_in (f := (fun r : Sg => ((none, (SHF, r)) : Out))) rfl (Nat.le_of_ble_eq_true rfl) ?_
  unfold x_copyInts_c104
  change Lt X d none k_145 _ 0 [some (.ref 45), some (.ref 184)] [] g _
  refine L_s (pc' := 1) rfl rfl ?_
  refine L_ic (pc' := 2) rfl q1_0 rfl ?_
  refine L_s (pc' := 3) rfl rfl ?_
  refine L_ic (pc' := 4) rfl q1_0 rfl ?_
  refine L_s (pc' := 5) rfl rfl ?_
  refine L_s (pc' := 6) (st' := [.int 150, .int 0, .ref 184, .int 0, .ref 45]) rfl rfl ?_
  refine L_s (pc' := 7) rfl rfl ?_
  refine L_s (pc' := 8) (st' := [.int 150, .int 150, .int 0, .ref 184, .int 0, .ref 45]) rfl rfl ?_
  refine L_s (pc' := 11) rfl rfl ?_
  refine L_e (b := 150) (by decide) ?_
  refine L_cp (pc' := 14) rfl sh_45 sh_184 (by decide) (by decide) (by decide) (by decide) rfl rfl ?_
  refine L_let fun g1 _ => ?_
  exact L_ret rfl rfl rfl
def x_copyInts_c105  (g : Sg) : Option (Sg) :=
  lt1 (cp2 g 46 0 185 0 (Int32.toNatClampNeg 150)) (fun g1 => (some g1))
theorem e_x_copyInts_c105 {X : Xx} {d : Nat} (hd : 1 ≤ d)  (g : Sg) : ∀ r, x_copyInts_c105  g = some r → EvM zft mtl X d 145 [.ref 46, .ref 185] (SHF, g) ((fun r : Sg => ((none, (SHF, r)) : Out)) r) := by
  obtain ⟨d, rfl⟩ : ∃ d0, d = d0 + 1 := ⟨d - 1, by omega⟩
  have hd : 0 ≤ d := by omega
  refine E_in (f := (fun r : Sg => ((none, (SHF, r)) : Out))) rfl (Nat.le_of_ble_eq_true rfl) ?_
  unfold x_copyInts_c105
  change Lt X d none k_145 _ 0 [some (.ref 46), some (.ref 185)] [] g _
  refine L_s (pc' := 1) rfl rfl ?_
  refine L_ic (pc' := 2) rfl q1_0 rfl ?_
  refine L_s (pc' := 3) rfl rfl ?_
  refine L_ic (pc' := 4) rfl q1_0 rfl ?_
  refine L_s (pc' := 5) rfl rfl ?_
  refine L_s (pc' := 6) (st' := [.int 150, .int 0, .ref 185, .int 0, .ref 46]) rfl rfl ?_
  refine L_s (pc' := 7) rfl rfl ?_
  refine L_s (pc' := 8) (st' := [.int 150, .int 150, .int 0, .ref 185, .int 0, .ref 46]) rfl rfl ?_
  refine L_s (pc' := 11) rfl rfl ?_
  refine L_e (b := 150) (by decide) ?_
  refine L_cp (pc' := 14) rfl sh_46 sh_185 (by decide) (by decide) (by decide) (by decide) rfl rfl ?_
  refine L_let fun g1 _ => ?_
  exact L_ret rfl rfl rfl
def gauges_copyFrom_c2  (g : Sg) : Option (Sg) :=
  lt1 (up2 g 181 0 (g 42 0)) (fun g1 => Option.bind (x_copyInts_c102 g1) (fun g2 => Option.bind (x_copyInts_c103 g2) (fun g3 => Option.bind (x_copyInts_c104 g3) (fun g4 => Option.bind (x_copyInts_c105 g4) (fun g5 => (some g5))))))
theorem e_gauges_copyFrom_c2 {X : Xx} {d : Nat} (hd : 2 ≤ d)  (g : Sg) : ∀ r, gauges_copyFrom_c2  g = some r → EvM zft mtl X d 13 [.ref 181, .ref 42] (SHF, g) ((fun r : Sg => ((none, (SHF, r)) : Out)) r) := by
  obtain ⟨d, rfl⟩ : ∃ d0, d = d0 + 1 := ⟨d - 1, by omega⟩
  have hd : 1 ≤ d := by omega
  refine E_in (f := (fun r : Sg => ((none, (SHF, r)) : Out))) rfl (Nat.le_of_ble_eq_true rfl) ?_
  unfold gauges_copyFrom_c2
  change Lt X d none k_13 _ 0 [some (.ref 181), some (.ref 42)] [] g _
  refine L_s (pc' := 1) rfl rfl ?_
  refine L_s (pc' := 2) rfl rfl ?_
  refine L_gf (pc' := 5) rfl fi_42_0 rfl ?_
  refine L_pf (pc' := 8) rfl sh_181 (by decide) rfl rfl ?_
  refine L_let fun g1 _ => ?_
  refine L_s (pc' := 9) rfl rfl ?_
  refine L_gf (pc' := 12) rfl fr_42_1 rfl ?_
  refine L_s (pc' := 13) rfl rfl ?_
  refine L_gf (pc' := 16) rfl fr_181_1 rfl ?_
  refine L_cv (pc' := 19) (as := [.ref 43, .ref 182]) (rest := []) rfl rfl (e_x_copyInts_c102 (by omega) _) rfl fun g2 => ?_
  refine L_s (pc' := 20) rfl rfl ?_
  refine L_gf (pc' := 23) rfl fr_42_2 rfl ?_
  refine L_s (pc' := 24) rfl rfl ?_
  refine L_gf (pc' := 27) rfl fr_181_2 rfl ?_
  refine L_cv (pc' := 30) (as := [.ref 44, .ref 183]) (rest := []) rfl rfl (e_x_copyInts_c103 (by omega) _) rfl fun g3 => ?_
  refine L_s (pc' := 31) rfl rfl ?_
  refine L_gf (pc' := 34) rfl fr_42_3 rfl ?_
  refine L_s (pc' := 35) rfl rfl ?_
  refine L_gf (pc' := 38) rfl fr_181_3 rfl ?_
  refine L_cv (pc' := 41) (as := [.ref 45, .ref 184]) (rest := []) rfl rfl (e_x_copyInts_c104 (by omega) _) rfl fun g4 => ?_
  refine L_s (pc' := 42) rfl rfl ?_
  refine L_gf (pc' := 45) rfl fr_42_4 rfl ?_
  refine L_s (pc' := 46) rfl rfl ?_
  refine L_gf (pc' := 49) rfl fr_181_4 rfl ?_
  refine L_cv (pc' := 52) (as := [.ref 46, .ref 185]) (rest := []) rfl rfl (e_x_copyInts_c105 (by omega) _) rfl fun g5 => ?_
  exact L_ret rfl rfl rfl
def told_copyFrom_c2  (g : Sg) : Option (Sg) :=
  Option.bind (net_copyFrom_c2 g) (fun g1 => Option.bind (rights_copyFrom_c2 g1) (fun g2 => Option.bind (law_copyFrom_c2 g2) (fun g3 => Option.bind (gauges_copyFrom_c2 g3) (fun g4 => (some g4)))))
theorem e_told_copyFrom_c2 {X : Xx} {d : Nat} (hd : 4 ≤ d)  (g : Sg) : ∀ r, told_copyFrom_c2  g = some r → EvM zft mtl X d 88 [.ref 140, .ref 1] (SHF, g) ((fun r : Sg => ((none, (SHF, r)) : Out)) r) := by
  obtain ⟨d, rfl⟩ : ∃ d0, d = d0 + 1 := ⟨d - 1, by omega⟩
  have hd : 3 ≤ d := by omega
  refine E_in (f := (fun r : Sg => ((none, (SHF, r)) : Out))) rfl (Nat.le_of_ble_eq_true rfl) ?_
  unfold told_copyFrom_c2
  change Lt X d none k_88 _ 0 [some (.ref 140), some (.ref 1)] [] g _
  refine L_s (pc' := 1) rfl rfl ?_
  refine L_gf (pc' := 4) rfl fr_140_0 rfl ?_
  refine L_s (pc' := 5) rfl rfl ?_
  refine L_gf (pc' := 8) rfl fr_1_0 rfl ?_
  refine L_cv (pc' := 11) (as := [.ref 141, .ref 2]) (rest := []) rfl rfl (e_net_copyFrom_c2 (by omega) _) rfl fun g1 => ?_
  refine L_s (pc' := 12) rfl rfl ?_
  refine L_gf (pc' := 15) rfl fr_140_1 rfl ?_
  refine L_s (pc' := 16) rfl rfl ?_
  refine L_gf (pc' := 19) rfl fr_1_1 rfl ?_
  refine L_cv (pc' := 22) (as := [.ref 161, .ref 22]) (rest := []) rfl rfl (e_rights_copyFrom_c2 (by omega) _) rfl fun g2 => ?_
  refine L_s (pc' := 23) rfl rfl ?_
  refine L_gf (pc' := 26) rfl fr_140_2 rfl ?_
  refine L_s (pc' := 27) rfl rfl ?_
  refine L_gf (pc' := 30) rfl fr_1_2 rfl ?_
  refine L_cv (pc' := 33) (as := [.ref 170, .ref 31]) (rest := []) rfl rfl (e_law_copyFrom_c2 (by omega) _) rfl fun g3 => ?_
  refine L_s (pc' := 34) rfl rfl ?_
  refine L_gf (pc' := 37) rfl fr_140_3 rfl ?_
  refine L_s (pc' := 38) rfl rfl ?_
  refine L_gf (pc' := 41) rfl fr_1_3 rfl ?_
  refine L_cv (pc' := 44) (as := [.ref 181, .ref 42]) (rest := []) rfl rfl (e_gauges_copyFrom_c2 (by omega) _) rfl fun g4 => ?_
  exact L_ret rfl rfl rfl
def x_image (v1 : Int32) (g : Sg) : Option (Int32 × Sg) :=
  (if v1 = 0 then
    Option.bind (x_within 0 0 2 g) (fun x1 => (if x1 = 0 then
      (some (0, g))
    else
      Option.bind (told_copyFrom g) (fun g2 => lt1 (up2 g2 186 0 (1 &&& 1)) (fun g3 => (some (1, g3))))))
  else (if v1 = 1 then
    Option.bind (x_within 1 0 2 g) (fun x4 => (if x4 = 0 then
      (some (0, g))
    else
      Option.bind (told_copyFrom_c1 g) (fun g5 => lt1 (up2 g5 186 1 (1 &&& 1)) (fun g6 => (some (1, g6))))))
  else (if v1 = 2 then
    Option.bind (x_within 2 0 2 g) (fun x7 => (if x7 = 0 then
      (some (0, g))
    else
      Option.bind (told_copyFrom_c2 g) (fun g8 => lt1 (up2 g8 186 2 (1 &&& 1)) (fun g9 => (some (1, g9))))))
  else Option.bind (x_within v1 0 2 g) (fun x10 => (if x10 = 0 then
    (some (0, g))
  else
    none)))))
theorem e_x_image {X : Xx} {d : Nat} (hd : 5 ≤ d) (v1 : Int32) (g : Sg) : ∀ r, x_image v1 g = some r → EvM zft mtl X d 137 [.ref 0, .int v1] (SHF, g) ((fun r : Int32 × Sg => ((some (.int r.1), (SHF, r.2)) : Out)) r) := by
  obtain ⟨d, rfl⟩ : ∃ d0, d = d0 + 1 := ⟨d - 1, by omega⟩
  have hd : 4 ≤ d := by omega
  refine E_in (f := (fun r : Int32 × Sg => ((some (.int r.1), (SHF, r.2)) : Out))) rfl (Nat.le_of_ble_eq_true rfl) ?_
  unfold x_image
  change Lt X d (some .boolean) k_137 _ 0 [some (.ref 0), some (.int v1)] [] g _
  refine L_if (fun hs => ?_) (fun _ => ?_)
  · subst hs
    refine L_s (pc' := 1) rfl rfl ?_
    refine L_ic (pc' := 2) rfl q1_0 rfl ?_
    refine L_ic (pc' := 3) rfl q1_2 rfl ?_
    refine L_ci (pc' := 6) (as := [.int 0, .int 0, .int 2]) (rest := []) rfl rfl (e_x_within (by omega) _ _ _ _) rfl fun x1 => ?_
    refine L_br (t := 18) (n := 9) rfl rfl (fun _ => ?_) (fun _ => ?_)
    · refine L_ic (pc' := 19) rfl q1_0 rfl ?_
      exact L_ret rfl (ret_z (by decide)) rfl
    · refine L_s (pc' := 10) rfl rfl ?_
      refine L_gf (pc' := 13) rfl fr_0_1 rfl ?_
      refine L_s (pc' := 14) rfl rfl ?_
      refine L_aa (pc' := 15) rfl sh_47 (by decide) (by decide) rfl rfl ?_
      refine L_s (pc' := 20) rfl rfl ?_
      refine L_s (pc' := 21) rfl rfl ?_
      refine L_gf (pc' := 24) rfl fr_0_1 rfl ?_
      refine L_s (pc' := 25) rfl rfl ?_
      refine L_aa (pc' := 26) rfl sh_47 (by decide) (by decide) rfl rfl ?_
      refine L_s (pc' := 27) rfl rfl ?_
      refine L_gf (pc' := 30) rfl fr_0_0 rfl ?_
      refine L_cv (pc' := 33) (as := [.ref 48, .ref 1]) (rest := []) rfl rfl (e_told_copyFrom (by omega) _) rfl fun g2 => ?_
      refine L_s (pc' := 34) rfl rfl ?_
      refine L_gf (pc' := 37) rfl fr_0_2 rfl ?_
      refine L_s (pc' := 38) rfl rfl ?_
      refine L_ic (pc' := 39) rfl q1_1 rfl ?_
      refine L_wZk (pc' := 40) (j := 0) rfl sh_186 (by decide) (by decide) (by decide) rfl ?_
      refine L_let fun g3 _ => ?_
      refine L_ic (pc' := 41) rfl q1_1 rfl ?_
      exact L_ret rfl (ret_z (by decide)) rfl
  refine L_if (fun hs => ?_) (fun _ => ?_)
  · subst hs
    refine L_s (pc' := 1) rfl rfl ?_
    refine L_ic (pc' := 2) rfl q1_0 rfl ?_
    refine L_ic (pc' := 3) rfl q1_2 rfl ?_
    refine L_ci (pc' := 6) (as := [.int 1, .int 0, .int 2]) (rest := []) rfl rfl (e_x_within (by omega) _ _ _ _) rfl fun x4 => ?_
    refine L_br (t := 18) (n := 9) rfl rfl (fun _ => ?_) (fun _ => ?_)
    · refine L_ic (pc' := 19) rfl q1_0 rfl ?_
      exact L_ret rfl (ret_z (by decide)) rfl
    · refine L_s (pc' := 10) rfl rfl ?_
      refine L_gf (pc' := 13) rfl fr_0_1 rfl ?_
      refine L_s (pc' := 14) rfl rfl ?_
      refine L_aa (pc' := 15) rfl sh_47 (by decide) (by decide) rfl rfl ?_
      refine L_s (pc' := 20) rfl rfl ?_
      refine L_s (pc' := 21) rfl rfl ?_
      refine L_gf (pc' := 24) rfl fr_0_1 rfl ?_
      refine L_s (pc' := 25) rfl rfl ?_
      refine L_aa (pc' := 26) rfl sh_47 (by decide) (by decide) rfl rfl ?_
      refine L_s (pc' := 27) rfl rfl ?_
      refine L_gf (pc' := 30) rfl fr_0_0 rfl ?_
      refine L_cv (pc' := 33) (as := [.ref 94, .ref 1]) (rest := []) rfl rfl (e_told_copyFrom_c1 (by omega) _) rfl fun g5 => ?_
      refine L_s (pc' := 34) rfl rfl ?_
      refine L_gf (pc' := 37) rfl fr_0_2 rfl ?_
      refine L_s (pc' := 38) rfl rfl ?_
      refine L_ic (pc' := 39) rfl q1_1 rfl ?_
      refine L_wZk (pc' := 40) (j := 1) rfl sh_186 (by decide) (by decide) (by decide) rfl ?_
      refine L_let fun g6 _ => ?_
      refine L_ic (pc' := 41) rfl q1_1 rfl ?_
      exact L_ret rfl (ret_z (by decide)) rfl
  refine L_if (fun hs => ?_) (fun _ => ?_)
  · subst hs
    refine L_s (pc' := 1) rfl rfl ?_
    refine L_ic (pc' := 2) rfl q1_0 rfl ?_
    refine L_ic (pc' := 3) rfl q1_2 rfl ?_
    refine L_ci (pc' := 6) (as := [.int 2, .int 0, .int 2]) (rest := []) rfl rfl (e_x_within (by omega) _ _ _ _) rfl fun x7 => ?_
    refine L_br (t := 18) (n := 9) rfl rfl (fun _ => ?_) (fun _ => ?_)
    · refine L_ic (pc' := 19) rfl q1_0 rfl ?_
      exact L_ret rfl (ret_z (by decide)) rfl
    · refine L_s (pc' := 10) rfl rfl ?_
      refine L_gf (pc' := 13) rfl fr_0_1 rfl ?_
      refine L_s (pc' := 14) rfl rfl ?_
      refine L_aa (pc' := 15) rfl sh_47 (by decide) (by decide) rfl rfl ?_
      refine L_s (pc' := 20) rfl rfl ?_
      refine L_s (pc' := 21) rfl rfl ?_
      refine L_gf (pc' := 24) rfl fr_0_1 rfl ?_
      refine L_s (pc' := 25) rfl rfl ?_
      refine L_aa (pc' := 26) rfl sh_47 (by decide) (by decide) rfl rfl ?_
      refine L_s (pc' := 27) rfl rfl ?_
      refine L_gf (pc' := 30) rfl fr_0_0 rfl ?_
      refine L_cv (pc' := 33) (as := [.ref 140, .ref 1]) (rest := []) rfl rfl (e_told_copyFrom_c2 (by omega) _) rfl fun g8 => ?_
      refine L_s (pc' := 34) rfl rfl ?_
      refine L_gf (pc' := 37) rfl fr_0_2 rfl ?_
      refine L_s (pc' := 38) rfl rfl ?_
      refine L_ic (pc' := 39) rfl q1_1 rfl ?_
      refine L_wZk (pc' := 40) (j := 2) rfl sh_186 (by decide) (by decide) (by decide) rfl ?_
      refine L_let fun g9 _ => ?_
      refine L_ic (pc' := 41) rfl q1_1 rfl ?_
      exact L_ret rfl (ret_z (by decide)) rfl
  refine L_s (pc' := 1) rfl rfl ?_
  refine L_ic (pc' := 2) rfl q1_0 rfl ?_
  refine L_ic (pc' := 3) rfl q1_2 rfl ?_
  refine L_ci (pc' := 6) (as := [.int v1, .int 0, .int 2]) (rest := []) rfl rfl (e_x_within (by omega) _ _ _ _) rfl fun x10 => ?_
  refine L_br (t := 18) (n := 9) rfl rfl (fun _ => ?_) (fun _ => ?_)
  · refine L_ic (pc' := 19) rfl q1_0 rfl ?_
    exact L_ret rfl (ret_z (by decide)) rfl
  · refine L_s (pc' := 10) rfl rfl ?_
    refine L_gf (pc' := 13) rfl fr_0_1 rfl ?_
    refine L_s (pc' := 14) rfl rfl ?_
    exact L_none
def x_copyInts_c106  (g : Sg) : Option (Sg) :=
  lt1 (cp2 g 50 0 3 0 (Int32.toNatClampNeg 10)) (fun g1 => (some g1))
theorem e_x_copyInts_c106 {X : Xx} {d : Nat} (hd : 1 ≤ d)  (g : Sg) : ∀ r, x_copyInts_c106  g = some r → EvM zft mtl X d 145 [.ref 50, .ref 3] (SHF, g) ((fun r : Sg => ((none, (SHF, r)) : Out)) r) := by
  obtain ⟨d, rfl⟩ : ∃ d0, d = d0 + 1 := ⟨d - 1, by omega⟩
  have hd : 0 ≤ d := by omega
  refine E_in (f := (fun r : Sg => ((none, (SHF, r)) : Out))) rfl (Nat.le_of_ble_eq_true rfl) ?_
  unfold x_copyInts_c106
  change Lt X d none k_145 _ 0 [some (.ref 50), some (.ref 3)] [] g _
  refine L_s (pc' := 1) rfl rfl ?_
  refine L_ic (pc' := 2) rfl q1_0 rfl ?_
  refine L_s (pc' := 3) rfl rfl ?_
  refine L_ic (pc' := 4) rfl q1_0 rfl ?_
  refine L_s (pc' := 5) rfl rfl ?_
  refine L_s (pc' := 6) (st' := [.int 10, .int 0, .ref 3, .int 0, .ref 50]) rfl rfl ?_
  refine L_s (pc' := 7) rfl rfl ?_
  refine L_s (pc' := 8) (st' := [.int 10, .int 10, .int 0, .ref 3, .int 0, .ref 50]) rfl rfl ?_
  refine L_s (pc' := 11) rfl rfl ?_
  refine L_e (b := 10) (by decide) ?_
  refine L_cp (pc' := 14) rfl sh_50 sh_3 (by decide) (by decide) (by decide) (by decide) rfl rfl ?_
  refine L_let fun g1 _ => ?_
  exact L_ret rfl rfl rfl
def x_copyInts_c107  (g : Sg) : Option (Sg) :=
  lt1 (cp2 g 51 0 4 0 (Int32.toNatClampNeg 10)) (fun g1 => (some g1))
theorem e_x_copyInts_c107 {X : Xx} {d : Nat} (hd : 1 ≤ d)  (g : Sg) : ∀ r, x_copyInts_c107  g = some r → EvM zft mtl X d 145 [.ref 51, .ref 4] (SHF, g) ((fun r : Sg => ((none, (SHF, r)) : Out)) r) := by
  obtain ⟨d, rfl⟩ : ∃ d0, d = d0 + 1 := ⟨d - 1, by omega⟩
  have hd : 0 ≤ d := by omega
  refine E_in (f := (fun r : Sg => ((none, (SHF, r)) : Out))) rfl (Nat.le_of_ble_eq_true rfl) ?_
  unfold x_copyInts_c107
  change Lt X d none k_145 _ 0 [some (.ref 51), some (.ref 4)] [] g _
  refine L_s (pc' := 1) rfl rfl ?_
  refine L_ic (pc' := 2) rfl q1_0 rfl ?_
  refine L_s (pc' := 3) rfl rfl ?_
  refine L_ic (pc' := 4) rfl q1_0 rfl ?_
  refine L_s (pc' := 5) rfl rfl ?_
  refine L_s (pc' := 6) (st' := [.int 10, .int 0, .ref 4, .int 0, .ref 51]) rfl rfl ?_
  refine L_s (pc' := 7) rfl rfl ?_
  refine L_s (pc' := 8) (st' := [.int 10, .int 10, .int 0, .ref 4, .int 0, .ref 51]) rfl rfl ?_
  refine L_s (pc' := 11) rfl rfl ?_
  refine L_e (b := 10) (by decide) ?_
  refine L_cp (pc' := 14) rfl sh_51 sh_4 (by decide) (by decide) (by decide) (by decide) rfl rfl ?_
  refine L_let fun g1 _ => ?_
  exact L_ret rfl rfl rfl
def x_copyInts_c108  (g : Sg) : Option (Sg) :=
  lt1 (cp2 g 52 0 5 0 (Int32.toNatClampNeg 10)) (fun g1 => (some g1))
theorem e_x_copyInts_c108 {X : Xx} {d : Nat} (hd : 1 ≤ d)  (g : Sg) : ∀ r, x_copyInts_c108  g = some r → EvM zft mtl X d 145 [.ref 52, .ref 5] (SHF, g) ((fun r : Sg => ((none, (SHF, r)) : Out)) r) := by
  obtain ⟨d, rfl⟩ : ∃ d0, d = d0 + 1 := ⟨d - 1, by omega⟩
  have hd : 0 ≤ d := by omega
  refine E_in (f := (fun r : Sg => ((none, (SHF, r)) : Out))) rfl (Nat.le_of_ble_eq_true rfl) ?_
  unfold x_copyInts_c108
  change Lt X d none k_145 _ 0 [some (.ref 52), some (.ref 5)] [] g _
  refine L_s (pc' := 1) rfl rfl ?_
  refine L_ic (pc' := 2) rfl q1_0 rfl ?_
  refine L_s (pc' := 3) rfl rfl ?_
  refine L_ic (pc' := 4) rfl q1_0 rfl ?_
  refine L_s (pc' := 5) rfl rfl ?_
  refine L_s (pc' := 6) (st' := [.int 10, .int 0, .ref 5, .int 0, .ref 52]) rfl rfl ?_
  refine L_s (pc' := 7) rfl rfl ?_
  refine L_s (pc' := 8) (st' := [.int 10, .int 10, .int 0, .ref 5, .int 0, .ref 52]) rfl rfl ?_
  refine L_s (pc' := 11) rfl rfl ?_
  refine L_e (b := 10) (by decide) ?_
  refine L_cp (pc' := 14) rfl sh_52 sh_5 (by decide) (by decide) (by decide) (by decide) rfl rfl ?_
  refine L_let fun g1 _ => ?_
  exact L_ret rfl rfl rfl
def x_copyInts_c109  (g : Sg) : Option (Sg) :=
  lt1 (cp2 g 56 0 9 0 (Int32.toNatClampNeg 14)) (fun g1 => (some g1))
theorem e_x_copyInts_c109 {X : Xx} {d : Nat} (hd : 1 ≤ d)  (g : Sg) : ∀ r, x_copyInts_c109  g = some r → EvM zft mtl X d 145 [.ref 56, .ref 9] (SHF, g) ((fun r : Sg => ((none, (SHF, r)) : Out)) r) := by
  obtain ⟨d, rfl⟩ : ∃ d0, d = d0 + 1 := ⟨d - 1, by omega⟩
  have hd : 0 ≤ d := by omega
  refine E_in (f := (fun r : Sg => ((none, (SHF, r)) : Out))) rfl (Nat.le_of_ble_eq_true rfl) ?_
  unfold x_copyInts_c109
  change Lt X d none k_145 _ 0 [some (.ref 56), some (.ref 9)] [] g _
  refine L_s (pc' := 1) rfl rfl ?_
  refine L_ic (pc' := 2) rfl q1_0 rfl ?_
  refine L_s (pc' := 3) rfl rfl ?_
  refine L_ic (pc' := 4) rfl q1_0 rfl ?_
  refine L_s (pc' := 5) rfl rfl ?_
  refine L_s (pc' := 6) (st' := [.int 14, .int 0, .ref 9, .int 0, .ref 56]) rfl rfl ?_
  refine L_s (pc' := 7) rfl rfl ?_
  refine L_s (pc' := 8) (st' := [.int 14, .int 14, .int 0, .ref 9, .int 0, .ref 56]) rfl rfl ?_
  refine L_s (pc' := 11) rfl rfl ?_
  refine L_e (b := 14) (by decide) ?_
  refine L_cp (pc' := 14) rfl sh_56 sh_9 (by decide) (by decide) (by decide) (by decide) rfl rfl ?_
  refine L_let fun g1 _ => ?_
  exact L_ret rfl rfl rfl
def x_copyInts_c110  (g : Sg) : Option (Sg) :=
  lt1 (cp2 g 57 0 10 0 (Int32.toNatClampNeg 14)) (fun g1 => (some g1))
theorem e_x_copyInts_c110 {X : Xx} {d : Nat} (hd : 1 ≤ d)  (g : Sg) : ∀ r, x_copyInts_c110  g = some r → EvM zft mtl X d 145 [.ref 57, .ref 10] (SHF, g) ((fun r : Sg => ((none, (SHF, r)) : Out)) r) := by
  obtain ⟨d, rfl⟩ : ∃ d0, d = d0 + 1 := ⟨d - 1, by omega⟩
  have hd : 0 ≤ d := by omega
  refine E_in (f := (fun r : Sg => ((none, (SHF, r)) : Out))) rfl (Nat.le_of_ble_eq_true rfl) ?_
  unfold x_copyInts_c110
  change Lt X d none k_145 _ 0 [some (.ref 57), some (.ref 10)] [] g _
  refine L_s (pc' := 1) rfl rfl ?_
  refine L_ic (pc' := 2) rfl q1_0 rfl ?_
  refine L_s (pc' := 3) rfl rfl ?_
  refine L_ic (pc' := 4) rfl q1_0 rfl ?_
  refine L_s (pc' := 5) rfl rfl ?_
  refine L_s (pc' := 6) (st' := [.int 14, .int 0, .ref 10, .int 0, .ref 57]) rfl rfl ?_
  refine L_s (pc' := 7) rfl rfl ?_
  refine L_s (pc' := 8) (st' := [.int 14, .int 14, .int 0, .ref 10, .int 0, .ref 57]) rfl rfl ?_
  refine L_s (pc' := 11) rfl rfl ?_
  refine L_e (b := 14) (by decide) ?_
  refine L_cp (pc' := 14) rfl sh_57 sh_10 (by decide) (by decide) (by decide) (by decide) rfl rfl ?_
  refine L_let fun g1 _ => ?_
  exact L_ret rfl rfl rfl
def x_copyInts_c111  (g : Sg) : Option (Sg) :=
  lt1 (cp2 g 58 0 11 0 (Int32.toNatClampNeg 14)) (fun g1 => (some g1))
theorem e_x_copyInts_c111 {X : Xx} {d : Nat} (hd : 1 ≤ d)  (g : Sg) : ∀ r, x_copyInts_c111  g = some r → EvM zft mtl X d 145 [.ref 58, .ref 11] (SHF, g) ((fun r : Sg => ((none, (SHF, r)) : Out)) r) := by
  obtain ⟨d, rfl⟩ : ∃ d0, d = d0 + 1 := ⟨d - 1, by omega⟩
  have hd : 0 ≤ d := by omega
  refine E_in (f := (fun r : Sg => ((none, (SHF, r)) : Out))) rfl (Nat.le_of_ble_eq_true rfl) ?_
  unfold x_copyInts_c111
  change Lt X d none k_145 _ 0 [some (.ref 58), some (.ref 11)] [] g _
  refine L_s (pc' := 1) rfl rfl ?_
  refine L_ic (pc' := 2) rfl q1_0 rfl ?_
  refine L_s (pc' := 3) rfl rfl ?_
  refine L_ic (pc' := 4) rfl q1_0 rfl ?_
  refine L_s (pc' := 5) rfl rfl ?_
  refine L_s (pc' := 6) (st' := [.int 14, .int 0, .ref 11, .int 0, .ref 58]) rfl rfl ?_
  refine L_s (pc' := 7) rfl rfl ?_
  refine L_s (pc' := 8) (st' := [.int 14, .int 14, .int 0, .ref 11, .int 0, .ref 58]) rfl rfl ?_
  refine L_s (pc' := 11) rfl rfl ?_
  refine L_e (b := 14) (by decide) ?_
  refine L_cp (pc' := 14) rfl sh_58 sh_11 (by decide) (by decide) (by decide) (by decide) rfl rfl ?_
  refine L_let fun g1 _ => ?_
  exact L_ret rfl rfl rfl
def x_copyInts_c112  (g : Sg) : Option (Sg) :=
  lt1 (cp2 g 59 0 12 0 (Int32.toNatClampNeg 14)) (fun g1 => (some g1))
theorem e_x_copyInts_c112 {X : Xx} {d : Nat} (hd : 1 ≤ d)  (g : Sg) : ∀ r, x_copyInts_c112  g = some r → EvM zft mtl X d 145 [.ref 59, .ref 12] (SHF, g) ((fun r : Sg => ((none, (SHF, r)) : Out)) r) := by
  obtain ⟨d, rfl⟩ : ∃ d0, d = d0 + 1 := ⟨d - 1, by omega⟩
  have hd : 0 ≤ d := by omega
  refine E_in (f := (fun r : Sg => ((none, (SHF, r)) : Out))) rfl (Nat.le_of_ble_eq_true rfl) ?_
  unfold x_copyInts_c112
  change Lt X d none k_145 _ 0 [some (.ref 59), some (.ref 12)] [] g _
  refine L_s (pc' := 1) rfl rfl ?_
  refine L_ic (pc' := 2) rfl q1_0 rfl ?_
  refine L_s (pc' := 3) rfl rfl ?_
  refine L_ic (pc' := 4) rfl q1_0 rfl ?_
  refine L_s (pc' := 5) rfl rfl ?_
  refine L_s (pc' := 6) (st' := [.int 14, .int 0, .ref 12, .int 0, .ref 59]) rfl rfl ?_
  refine L_s (pc' := 7) rfl rfl ?_
  refine L_s (pc' := 8) (st' := [.int 14, .int 14, .int 0, .ref 12, .int 0, .ref 59]) rfl rfl ?_
  refine L_s (pc' := 11) rfl rfl ?_
  refine L_e (b := 14) (by decide) ?_
  refine L_cp (pc' := 14) rfl sh_59 sh_12 (by decide) (by decide) (by decide) (by decide) rfl rfl ?_
  refine L_let fun g1 _ => ?_
  exact L_ret rfl rfl rfl
def x_copyInts_c113  (g : Sg) : Option (Sg) :=
  lt1 (cp2 g 60 0 13 0 (Int32.toNatClampNeg 14)) (fun g1 => (some g1))
theorem e_x_copyInts_c113 {X : Xx} {d : Nat} (hd : 1 ≤ d)  (g : Sg) : ∀ r, x_copyInts_c113  g = some r → EvM zft mtl X d 145 [.ref 60, .ref 13] (SHF, g) ((fun r : Sg => ((none, (SHF, r)) : Out)) r) := by
  obtain ⟨d, rfl⟩ : ∃ d0, d = d0 + 1 := ⟨d - 1, by omega⟩
  have hd : 0 ≤ d := by omega
  refine E_in (f := (fun r : Sg => ((none, (SHF, r)) : Out))) rfl (Nat.le_of_ble_eq_true rfl) ?_
  unfold x_copyInts_c113
  change Lt X d none k_145 _ 0 [some (.ref 60), some (.ref 13)] [] g _
  refine L_s (pc' := 1) rfl rfl ?_
  refine L_ic (pc' := 2) rfl q1_0 rfl ?_
  refine L_s (pc' := 3) rfl rfl ?_
  refine L_ic (pc' := 4) rfl q1_0 rfl ?_
  refine L_s (pc' := 5) rfl rfl ?_
  refine L_s (pc' := 6) (st' := [.int 14, .int 0, .ref 13, .int 0, .ref 60]) rfl rfl ?_
  refine L_s (pc' := 7) rfl rfl ?_
  refine L_s (pc' := 8) (st' := [.int 14, .int 14, .int 0, .ref 13, .int 0, .ref 60]) rfl rfl ?_
  refine L_s (pc' := 11) rfl rfl ?_
  refine L_e (b := 14) (by decide) ?_
  refine L_cp (pc' := 14) rfl sh_60 sh_13 (by decide) (by decide) (by decide) (by decide) rfl rfl ?_
  refine L_let fun g1 _ => ?_
  exact L_ret rfl rfl rfl
def x_copyInts_c114  (g : Sg) : Option (Sg) :=
  lt1 (cp2 g 61 0 14 0 (Int32.toNatClampNeg 14)) (fun g1 => (some g1))
theorem e_x_copyInts_c114 {X : Xx} {d : Nat} (hd : 1 ≤ d)  (g : Sg) : ∀ r, x_copyInts_c114  g = some r → EvM zft mtl X d 145 [.ref 61, .ref 14] (SHF, g) ((fun r : Sg => ((none, (SHF, r)) : Out)) r) := by
  obtain ⟨d, rfl⟩ : ∃ d0, d = d0 + 1 := ⟨d - 1, by omega⟩
  have hd : 0 ≤ d := by omega
  refine E_in (f := (fun r : Sg => ((none, (SHF, r)) : Out))) rfl (Nat.le_of_ble_eq_true rfl) ?_
  unfold x_copyInts_c114
  change Lt X d none k_145 _ 0 [some (.ref 61), some (.ref 14)] [] g _
  refine L_s (pc' := 1) rfl rfl ?_
  refine L_ic (pc' := 2) rfl q1_0 rfl ?_
  refine L_s (pc' := 3) rfl rfl ?_
  refine L_ic (pc' := 4) rfl q1_0 rfl ?_
  refine L_s (pc' := 5) rfl rfl ?_
  refine L_s (pc' := 6) (st' := [.int 14, .int 0, .ref 14, .int 0, .ref 61]) rfl rfl ?_
  refine L_s (pc' := 7) rfl rfl ?_
  refine L_s (pc' := 8) (st' := [.int 14, .int 14, .int 0, .ref 14, .int 0, .ref 61]) rfl rfl ?_
  refine L_s (pc' := 11) rfl rfl ?_
  refine L_e (b := 14) (by decide) ?_
  refine L_cp (pc' := 14) rfl sh_61 sh_14 (by decide) (by decide) (by decide) (by decide) rfl rfl ?_
  refine L_let fun g1 _ => ?_
  exact L_ret rfl rfl rfl
def x_copyFlags_c10  (g : Sg) : Option (Sg) :=
  lt1 (cp2 g 62 0 15 0 (Int32.toNatClampNeg 14)) (fun g1 => (some g1))
theorem e_x_copyFlags_c10 {X : Xx} {d : Nat} (hd : 1 ≤ d)  (g : Sg) : ∀ r, x_copyFlags_c10  g = some r → EvM zft mtl X d 147 [.ref 62, .ref 15] (SHF, g) ((fun r : Sg => ((none, (SHF, r)) : Out)) r) := by
  obtain ⟨d, rfl⟩ : ∃ d0, d = d0 + 1 := ⟨d - 1, by omega⟩
  have hd : 0 ≤ d := by omega
  refine E_in (f := (fun r : Sg => ((none, (SHF, r)) : Out))) rfl (Nat.le_of_ble_eq_true rfl) ?_
  unfold x_copyFlags_c10
  change Lt X d none k_147 _ 0 [some (.ref 62), some (.ref 15)] [] g _
  refine L_s (pc' := 1) rfl rfl ?_
  refine L_ic (pc' := 2) rfl q1_0 rfl ?_
  refine L_s (pc' := 3) rfl rfl ?_
  refine L_ic (pc' := 4) rfl q1_0 rfl ?_
  refine L_s (pc' := 5) rfl rfl ?_
  refine L_s (pc' := 6) (st' := [.int 14, .int 0, .ref 15, .int 0, .ref 62]) rfl rfl ?_
  refine L_s (pc' := 7) rfl rfl ?_
  refine L_s (pc' := 8) (st' := [.int 14, .int 14, .int 0, .ref 15, .int 0, .ref 62]) rfl rfl ?_
  refine L_s (pc' := 11) rfl rfl ?_
  refine L_e (b := 14) (by decide) ?_
  refine L_cp (pc' := 14) rfl sh_62 sh_15 (by decide) (by decide) (by decide) (by decide) rfl rfl ?_
  refine L_let fun g1 _ => ?_
  exact L_ret rfl rfl rfl
def x_copyInts_c115  (g : Sg) : Option (Sg) :=
  lt1 (cp2 g 54 0 7 0 (Int32.toNatClampNeg 10)) (fun g1 => (some g1))
theorem e_x_copyInts_c115 {X : Xx} {d : Nat} (hd : 1 ≤ d)  (g : Sg) : ∀ r, x_copyInts_c115  g = some r → EvM zft mtl X d 145 [.ref 54, .ref 7] (SHF, g) ((fun r : Sg => ((none, (SHF, r)) : Out)) r) := by
  obtain ⟨d, rfl⟩ : ∃ d0, d = d0 + 1 := ⟨d - 1, by omega⟩
  have hd : 0 ≤ d := by omega
  refine E_in (f := (fun r : Sg => ((none, (SHF, r)) : Out))) rfl (Nat.le_of_ble_eq_true rfl) ?_
  unfold x_copyInts_c115
  change Lt X d none k_145 _ 0 [some (.ref 54), some (.ref 7)] [] g _
  refine L_s (pc' := 1) rfl rfl ?_
  refine L_ic (pc' := 2) rfl q1_0 rfl ?_
  refine L_s (pc' := 3) rfl rfl ?_
  refine L_ic (pc' := 4) rfl q1_0 rfl ?_
  refine L_s (pc' := 5) rfl rfl ?_
  refine L_s (pc' := 6) (st' := [.int 10, .int 0, .ref 7, .int 0, .ref 54]) rfl rfl ?_
  refine L_s (pc' := 7) rfl rfl ?_
  refine L_s (pc' := 8) (st' := [.int 10, .int 10, .int 0, .ref 7, .int 0, .ref 54]) rfl rfl ?_
  refine L_s (pc' := 11) rfl rfl ?_
  refine L_e (b := 10) (by decide) ?_
  refine L_cp (pc' := 14) rfl sh_54 sh_7 (by decide) (by decide) (by decide) (by decide) rfl rfl ?_
  refine L_let fun g1 _ => ?_
  exact L_ret rfl rfl rfl
def x_copyInts_c116  (g : Sg) : Option (Sg) :=
  lt1 (cp2 g 64 0 17 0 (Int32.toNatClampNeg 126)) (fun g1 => (some g1))
theorem e_x_copyInts_c116 {X : Xx} {d : Nat} (hd : 1 ≤ d)  (g : Sg) : ∀ r, x_copyInts_c116  g = some r → EvM zft mtl X d 145 [.ref 64, .ref 17] (SHF, g) ((fun r : Sg => ((none, (SHF, r)) : Out)) r) := by
  obtain ⟨d, rfl⟩ : ∃ d0, d = d0 + 1 := ⟨d - 1, by omega⟩
  have hd : 0 ≤ d := by omega
  refine E_in (f := (fun r : Sg => ((none, (SHF, r)) : Out))) rfl (Nat.le_of_ble_eq_true rfl) ?_
  unfold x_copyInts_c116
  change Lt X d none k_145 _ 0 [some (.ref 64), some (.ref 17)] [] g _
  refine L_s (pc' := 1) rfl rfl ?_
  refine L_ic (pc' := 2) rfl q1_0 rfl ?_
  refine L_s (pc' := 3) rfl rfl ?_
  refine L_ic (pc' := 4) rfl q1_0 rfl ?_
  refine L_s (pc' := 5) rfl rfl ?_
  refine L_s (pc' := 6) (st' := [.int 126, .int 0, .ref 17, .int 0, .ref 64]) rfl rfl ?_
  refine L_s (pc' := 7) rfl rfl ?_
  refine L_s (pc' := 8) (st' := [.int 126, .int 126, .int 0, .ref 17, .int 0, .ref 64]) rfl rfl ?_
  refine L_s (pc' := 11) rfl rfl ?_
  refine L_e (b := 126) (by decide) ?_
  refine L_cp (pc' := 14) rfl sh_64 sh_17 (by decide) (by decide) (by decide) (by decide) rfl rfl ?_
  refine L_let fun g1 _ => ?_
  exact L_ret rfl rfl rfl
def x_copyInts_c117  (g : Sg) : Option (Sg) :=
  lt1 (cp2 g 55 0 8 0 (Int32.toNatClampNeg 10)) (fun g1 => (some g1))
theorem e_x_copyInts_c117 {X : Xx} {d : Nat} (hd : 1 ≤ d)  (g : Sg) : ∀ r, x_copyInts_c117  g = some r → EvM zft mtl X d 145 [.ref 55, .ref 8] (SHF, g) ((fun r : Sg => ((none, (SHF, r)) : Out)) r) := by
  obtain ⟨d, rfl⟩ : ∃ d0, d = d0 + 1 := ⟨d - 1, by omega⟩
  have hd : 0 ≤ d := by omega
  refine E_in (f := (fun r : Sg => ((none, (SHF, r)) : Out))) rfl (Nat.le_of_ble_eq_true rfl) ?_
  unfold x_copyInts_c117
  change Lt X d none k_145 _ 0 [some (.ref 55), some (.ref 8)] [] g _
  refine L_s (pc' := 1) rfl rfl ?_
  refine L_ic (pc' := 2) rfl q1_0 rfl ?_
  refine L_s (pc' := 3) rfl rfl ?_
  refine L_ic (pc' := 4) rfl q1_0 rfl ?_
  refine L_s (pc' := 5) rfl rfl ?_
  refine L_s (pc' := 6) (st' := [.int 10, .int 0, .ref 8, .int 0, .ref 55]) rfl rfl ?_
  refine L_s (pc' := 7) rfl rfl ?_
  refine L_s (pc' := 8) (st' := [.int 10, .int 10, .int 0, .ref 8, .int 0, .ref 55]) rfl rfl ?_
  refine L_s (pc' := 11) rfl rfl ?_
  refine L_e (b := 10) (by decide) ?_
  refine L_cp (pc' := 14) rfl sh_55 sh_8 (by decide) (by decide) (by decide) (by decide) rfl rfl ?_
  refine L_let fun g1 _ => ?_
  exact L_ret rfl rfl rfl
def x_copyInts_c118  (g : Sg) : Option (Sg) :=
  lt1 (cp2 g 65 0 18 0 (Int32.toNatClampNeg 126)) (fun g1 => (some g1))
theorem e_x_copyInts_c118 {X : Xx} {d : Nat} (hd : 1 ≤ d)  (g : Sg) : ∀ r, x_copyInts_c118  g = some r → EvM zft mtl X d 145 [.ref 65, .ref 18] (SHF, g) ((fun r : Sg => ((none, (SHF, r)) : Out)) r) := by
  obtain ⟨d, rfl⟩ : ∃ d0, d = d0 + 1 := ⟨d - 1, by omega⟩
  have hd : 0 ≤ d := by omega
  refine E_in (f := (fun r : Sg => ((none, (SHF, r)) : Out))) rfl (Nat.le_of_ble_eq_true rfl) ?_
  unfold x_copyInts_c118
  change Lt X d none k_145 _ 0 [some (.ref 65), some (.ref 18)] [] g _
  refine L_s (pc' := 1) rfl rfl ?_
  refine L_ic (pc' := 2) rfl q1_0 rfl ?_
  refine L_s (pc' := 3) rfl rfl ?_
  refine L_ic (pc' := 4) rfl q1_0 rfl ?_
  refine L_s (pc' := 5) rfl rfl ?_
  refine L_s (pc' := 6) (st' := [.int 126, .int 0, .ref 18, .int 0, .ref 65]) rfl rfl ?_
  refine L_s (pc' := 7) rfl rfl ?_
  refine L_s (pc' := 8) (st' := [.int 126, .int 126, .int 0, .ref 18, .int 0, .ref 65]) rfl rfl ?_
  refine L_s (pc' := 11) rfl rfl ?_
  refine L_e (b := 126) (by decide) ?_
  refine L_cp (pc' := 14) rfl sh_65 sh_18 (by decide) (by decide) (by decide) (by decide) rfl rfl ?_
  refine L_let fun g1 _ => ?_
  exact L_ret rfl rfl rfl
def x_copyInts_c119  (g : Sg) : Option (Sg) :=
  lt1 (cp2 g 66 0 19 0 (Int32.toNatClampNeg 2)) (fun g1 => (some g1))
theorem e_x_copyInts_c119 {X : Xx} {d : Nat} (hd : 1 ≤ d)  (g : Sg) : ∀ r, x_copyInts_c119  g = some r → EvM zft mtl X d 145 [.ref 66, .ref 19] (SHF, g) ((fun r : Sg => ((none, (SHF, r)) : Out)) r) := by
  obtain ⟨d, rfl⟩ : ∃ d0, d = d0 + 1 := ⟨d - 1, by omega⟩
  have hd : 0 ≤ d := by omega
  refine E_in (f := (fun r : Sg => ((none, (SHF, r)) : Out))) rfl (Nat.le_of_ble_eq_true rfl) ?_
  unfold x_copyInts_c119
  change Lt X d none k_145 _ 0 [some (.ref 66), some (.ref 19)] [] g _
  refine L_s (pc' := 1) rfl rfl ?_
  refine L_ic (pc' := 2) rfl q1_0 rfl ?_
  refine L_s (pc' := 3) rfl rfl ?_
  refine L_ic (pc' := 4) rfl q1_0 rfl ?_
  refine L_s (pc' := 5) rfl rfl ?_
  refine L_s (pc' := 6) (st' := [.int 2, .int 0, .ref 19, .int 0, .ref 66]) rfl rfl ?_
  refine L_s (pc' := 7) rfl rfl ?_
  refine L_s (pc' := 8) (st' := [.int 2, .int 2, .int 0, .ref 19, .int 0, .ref 66]) rfl rfl ?_
  refine L_s (pc' := 11) rfl rfl ?_
  refine L_e (b := 2) (by decide) ?_
  refine L_cp (pc' := 14) rfl sh_66 sh_19 (by decide) (by decide) (by decide) (by decide) rfl rfl ?_
  refine L_let fun g1 _ => ?_
  exact L_ret rfl rfl rfl
def x_copyInts_c120  (g : Sg) : Option (Sg) :=
  lt1 (cp2 g 67 0 20 0 (Int32.toNatClampNeg 2)) (fun g1 => (some g1))
theorem e_x_copyInts_c120 {X : Xx} {d : Nat} (hd : 1 ≤ d)  (g : Sg) : ∀ r, x_copyInts_c120  g = some r → EvM zft mtl X d 145 [.ref 67, .ref 20] (SHF, g) ((fun r : Sg => ((none, (SHF, r)) : Out)) r) := by
  obtain ⟨d, rfl⟩ : ∃ d0, d = d0 + 1 := ⟨d - 1, by omega⟩
  have hd : 0 ≤ d := by omega
  refine E_in (f := (fun r : Sg => ((none, (SHF, r)) : Out))) rfl (Nat.le_of_ble_eq_true rfl) ?_
  unfold x_copyInts_c120
  change Lt X d none k_145 _ 0 [some (.ref 67), some (.ref 20)] [] g _
  refine L_s (pc' := 1) rfl rfl ?_
  refine L_ic (pc' := 2) rfl q1_0 rfl ?_
  refine L_s (pc' := 3) rfl rfl ?_
  refine L_ic (pc' := 4) rfl q1_0 rfl ?_
  refine L_s (pc' := 5) rfl rfl ?_
  refine L_s (pc' := 6) (st' := [.int 2, .int 0, .ref 20, .int 0, .ref 67]) rfl rfl ?_
  refine L_s (pc' := 7) rfl rfl ?_
  refine L_s (pc' := 8) (st' := [.int 2, .int 2, .int 0, .ref 20, .int 0, .ref 67]) rfl rfl ?_
  refine L_s (pc' := 11) rfl rfl ?_
  refine L_e (b := 2) (by decide) ?_
  refine L_cp (pc' := 14) rfl sh_67 sh_20 (by decide) (by decide) (by decide) (by decide) rfl rfl ?_
  refine L_let fun g1 _ => ?_
  exact L_ret rfl rfl rfl
def x_copyInts_c121  (g : Sg) : Option (Sg) :=
  lt1 (cp2 g 68 0 21 0 (Int32.toNatClampNeg 2)) (fun g1 => (some g1))
theorem e_x_copyInts_c121 {X : Xx} {d : Nat} (hd : 1 ≤ d)  (g : Sg) : ∀ r, x_copyInts_c121  g = some r → EvM zft mtl X d 145 [.ref 68, .ref 21] (SHF, g) ((fun r : Sg => ((none, (SHF, r)) : Out)) r) := by
  obtain ⟨d, rfl⟩ : ∃ d0, d = d0 + 1 := ⟨d - 1, by omega⟩
  have hd : 0 ≤ d := by omega
  refine E_in (f := (fun r : Sg => ((none, (SHF, r)) : Out))) rfl (Nat.le_of_ble_eq_true rfl) ?_
  unfold x_copyInts_c121
  change Lt X d none k_145 _ 0 [some (.ref 68), some (.ref 21)] [] g _
  refine L_s (pc' := 1) rfl rfl ?_
  refine L_ic (pc' := 2) rfl q1_0 rfl ?_
  refine L_s (pc' := 3) rfl rfl ?_
  refine L_ic (pc' := 4) rfl q1_0 rfl ?_
  refine L_s (pc' := 5) rfl rfl ?_
  refine L_s (pc' := 6) (st' := [.int 2, .int 0, .ref 21, .int 0, .ref 68]) rfl rfl ?_
  refine L_s (pc' := 7) rfl rfl ?_
  refine L_s (pc' := 8) (st' := [.int 2, .int 2, .int 0, .ref 21, .int 0, .ref 68]) rfl rfl ?_
  refine L_s (pc' := 11) rfl rfl ?_
  refine L_e (b := 2) (by decide) ?_
  refine L_cp (pc' := 14) rfl sh_68 sh_21 (by decide) (by decide) (by decide) (by decide) rfl rfl ?_
  refine L_let fun g1 _ => ?_
  exact L_ret rfl rfl rfl
def net_copyFrom_c3  (g : Sg) : Option (Sg) :=
  lt1 (up2 g 2 0 (g 49 0)) (fun g1 => lt1 (up2 g1 2 1 (g1 49 1)) (fun g2 => lt1 (up2 g2 2 6 (g2 49 6)) (fun g3 => Option.bind (x_copyInts_c106 g3) (fun g4 => Option.bind (x_copyInts_c107 g4) (fun g5 => Option.bind (x_copyInts_c108 g5) (fun g6 => Option.bind (x_copyInts_c109 g6) (fun g7 => Option.bind (x_copyInts_c110 g7) (fun g8 => Option.bind (x_copyInts_c111 g8) (fun g9 => Option.bind (x_copyInts_c112 g9) (fun g10 => Option.bind (x_copyInts_c113 g10) (fun g11 => Option.bind (x_copyInts_c114 g11) (fun g12 => Option.bind (x_copyFlags_c10 g12) (fun g13 => Option.bind (x_copyInts_c115 g13) (fun g14 => Option.bind (x_copyInts_c116 g14) (fun g15 => Option.bind (x_copyInts_c117 g15) (fun g16 => Option.bind (x_copyInts_c118 g16) (fun g17 => Option.bind (x_copyInts_c119 g17) (fun g18 => Option.bind (x_copyInts_c120 g18) (fun g19 => Option.bind (x_copyInts_c121 g19) (fun g20 => (some g20)))))))))))))))))))))
theorem e_net_copyFrom_c3 {X : Xx} {d : Nat} (hd : 2 ≤ d)  (g : Sg) : ∀ r, net_copyFrom_c3  g = some r → EvM zft mtl X d 42 [.ref 2, .ref 49] (SHF, g) ((fun r : Sg => ((none, (SHF, r)) : Out)) r) := by
  obtain ⟨d, rfl⟩ : ∃ d0, d = d0 + 1 := ⟨d - 1, by omega⟩
  have hd : 1 ≤ d := by omega
  refine E_in (f := (fun r : Sg => ((none, (SHF, r)) : Out))) rfl (Nat.le_of_ble_eq_true rfl) ?_
  unfold net_copyFrom_c3
  change Lt X d none k_42 _ 0 [some (.ref 2), some (.ref 49), none] [] g _
  refine L_s (pc' := 1) rfl rfl ?_
  refine L_s (pc' := 2) rfl rfl ?_
  refine L_gf (pc' := 5) rfl fi_49_0 rfl ?_
  refine L_pf (pc' := 8) rfl sh_2 (by decide) rfl rfl ?_
  refine L_let fun g1 _ => ?_
  refine L_s (pc' := 9) rfl rfl ?_
  refine L_s (pc' := 10) rfl rfl ?_
  refine L_gf (pc' := 13) rfl fi_49_1 rfl ?_
  refine L_pf (pc' := 16) rfl sh_2 (by decide) rfl rfl ?_
  refine L_let fun g2 _ => ?_
  refine L_s (pc' := 17) rfl rfl ?_
  refine L_s (pc' := 18) rfl rfl ?_
  refine L_gf (pc' := 21) rfl fi_49_6 rfl ?_
  refine L_pf (pc' := 24) rfl sh_2 (by decide) rfl rfl ?_
  refine L_let fun g3 _ => ?_
  refine L_s (pc' := 25) rfl rfl ?_
  refine L_gf (pc' := 28) rfl fr_49_2 rfl ?_
  refine L_s (pc' := 29) rfl rfl ?_
  refine L_gf (pc' := 32) rfl fr_2_2 rfl ?_
  refine L_cv (pc' := 35) (as := [.ref 50, .ref 3]) (rest := []) rfl rfl (e_x_copyInts_c106 (by omega) _) rfl fun g4 => ?_
  refine L_s (pc' := 36) rfl rfl ?_
  refine L_gf (pc' := 39) rfl fr_49_3 rfl ?_
  refine L_s (pc' := 40) rfl rfl ?_
  refine L_gf (pc' := 43) rfl fr_2_3 rfl ?_
  refine L_cv (pc' := 46) (as := [.ref 51, .ref 4]) (rest := []) rfl rfl (e_x_copyInts_c107 (by omega) _) rfl fun g5 => ?_
  refine L_s (pc' := 47) rfl rfl ?_
  refine L_gf (pc' := 50) rfl fr_49_4 rfl ?_
  refine L_s (pc' := 51) rfl rfl ?_
  refine L_gf (pc' := 54) rfl fr_2_4 rfl ?_
  refine L_cv (pc' := 57) (as := [.ref 52, .ref 5]) (rest := []) rfl rfl (e_x_copyInts_c108 (by omega) _) rfl fun g6 => ?_
  refine L_s (pc' := 58) rfl rfl ?_
  refine L_gf (pc' := 61) rfl fr_49_7 rfl ?_
  refine L_s (pc' := 62) rfl rfl ?_
  refine L_gf (pc' := 65) rfl fr_2_7 rfl ?_
  refine L_cv (pc' := 68) (as := [.ref 56, .ref 9]) (rest := []) rfl rfl (e_x_copyInts_c109 (by omega) _) rfl fun g7 => ?_
  refine L_s (pc' := 69) rfl rfl ?_
  refine L_gf (pc' := 72) rfl fr_49_8 rfl ?_
  refine L_s (pc' := 73) rfl rfl ?_
  refine L_gf (pc' := 76) rfl fr_2_8 rfl ?_
  refine L_cv (pc' := 79) (as := [.ref 57, .ref 10]) (rest := []) rfl rfl (e_x_copyInts_c110 (by omega) _) rfl fun g8 => ?_
  refine L_s (pc' := 80) rfl rfl ?_
  refine L_gf (pc' := 83) rfl fr_49_9 rfl ?_
  refine L_s (pc' := 84) rfl rfl ?_
  refine L_gf (pc' := 87) rfl fr_2_9 rfl ?_
  refine L_cv (pc' := 90) (as := [.ref 58, .ref 11]) (rest := []) rfl rfl (e_x_copyInts_c111 (by omega) _) rfl fun g9 => ?_
  refine L_s (pc' := 91) rfl rfl ?_
  refine L_gf (pc' := 94) rfl fr_49_10 rfl ?_
  refine L_s (pc' := 95) rfl rfl ?_
  refine L_gf (pc' := 98) rfl fr_2_10 rfl ?_
  refine L_cv (pc' := 101) (as := [.ref 59, .ref 12]) (rest := []) rfl rfl (e_x_copyInts_c112 (by omega) _) rfl fun g10 => ?_
  refine L_s (pc' := 102) rfl rfl ?_
  refine L_gf (pc' := 105) rfl fr_49_11 rfl ?_
  refine L_s (pc' := 106) rfl rfl ?_
  refine L_gf (pc' := 109) rfl fr_2_11 rfl ?_
  refine L_cv (pc' := 112) (as := [.ref 60, .ref 13]) (rest := []) rfl rfl (e_x_copyInts_c113 (by omega) _) rfl fun g11 => ?_
  refine L_s (pc' := 113) rfl rfl ?_
  refine L_gf (pc' := 116) rfl fr_49_12 rfl ?_
  refine L_s (pc' := 117) rfl rfl ?_
  refine L_gf (pc' := 120) rfl fr_2_12 rfl ?_
  refine L_cv (pc' := 123) (as := [.ref 61, .ref 14]) (rest := []) rfl rfl (e_x_copyInts_c114 (by omega) _) rfl fun g12 => ?_
  refine L_s (pc' := 124) rfl rfl ?_
  refine L_gf (pc' := 127) rfl fr_49_13 rfl ?_
  refine L_s (pc' := 128) rfl rfl ?_
  refine L_gf (pc' := 131) rfl fr_2_13 rfl ?_
  refine L_cv (pc' := 134) (as := [.ref 62, .ref 15]) (rest := []) rfl rfl (e_x_copyFlags_c10 (by omega) _) rfl fun g13 => ?_
  refine L_ic (pc' := 135) rfl q1_0 rfl ?_
  refine L_s (pc' := 136) (L' := [some (.ref 2), some (.ref 49), some (.int 0)]) rfl rfl ?_
  refine L_s (pc' := 137) rfl rfl ?_
  refine L_ic (pc' := 138) rfl q1_2 rfl ?_
  refine L_bf (c := (2 : Int32) ≤ 0) (t := 177) (n := 141) rfl rfl (by decide) ?_
  refine L_s (pc' := 142) rfl rfl ?_
  refine L_gf (pc' := 145) rfl fr_49_5 rfl ?_
  refine L_s (pc' := 146) rfl rfl ?_
  refine L_aa (pc' := 147) rfl sh_53 (by decide) (by decide) rfl rfl ?_
  refine L_s (pc' := 148) rfl rfl ?_
  refine L_gf (pc' := 151) rfl fr_2_5 rfl ?_
  refine L_s (pc' := 152) rfl rfl ?_
  refine L_aa (pc' := 153) rfl sh_6 (by decide) (by decide) rfl rfl ?_
  refine L_cv (pc' := 156) (as := [.ref 54, .ref 7]) (rest := []) rfl rfl (e_x_copyInts_c115 (by omega) _) rfl fun g14 => ?_
  refine L_s (pc' := 157) rfl rfl ?_
  refine L_gf (pc' := 160) rfl fr_49_14 rfl ?_
  refine L_s (pc' := 161) rfl rfl ?_
  refine L_aa (pc' := 162) rfl sh_63 (by decide) (by decide) rfl rfl ?_
  refine L_s (pc' := 163) rfl rfl ?_
  refine L_gf (pc' := 166) rfl fr_2_14 rfl ?_
  refine L_s (pc' := 167) rfl rfl ?_
  refine L_aa (pc' := 168) rfl sh_16 (by decide) (by decide) rfl rfl ?_
  refine L_cv (pc' := 171) (as := [.ref 64, .ref 17]) (rest := []) rfl rfl (e_x_copyInts_c116 (by omega) _) rfl fun g15 => ?_
  refine L_ii (pc' := 174) (L' := [some (.ref 2), some (.ref 49), some (.int 1)]) rfl rfl q1_1 (by decide : (0 : Int32) + 1 = 1) rfl rfl ?_
  refine L_s (pc' := 136) rfl rfl ?_
  refine L_s (pc' := 137) rfl rfl ?_
  refine L_ic (pc' := 138) rfl q1_2 rfl ?_
  refine L_bf (c := (2 : Int32) ≤ 1) (t := 177) (n := 141) rfl rfl (by decide) ?_
  refine L_s (pc' := 142) rfl rfl ?_
  refine L_gf (pc' := 145) rfl fr_49_5 rfl ?_
  refine L_s (pc' := 146) rfl rfl ?_
  refine L_aa (pc' := 147) rfl sh_53 (by decide) (by decide) rfl rfl ?_
  refine L_s (pc' := 148) rfl rfl ?_
  refine L_gf (pc' := 151) rfl fr_2_5 rfl ?_
  refine L_s (pc' := 152) rfl rfl ?_
  refine L_aa (pc' := 153) rfl sh_6 (by decide) (by decide) rfl rfl ?_
  refine L_cv (pc' := 156) (as := [.ref 55, .ref 8]) (rest := []) rfl rfl (e_x_copyInts_c117 (by omega) _) rfl fun g16 => ?_
  refine L_s (pc' := 157) rfl rfl ?_
  refine L_gf (pc' := 160) rfl fr_49_14 rfl ?_
  refine L_s (pc' := 161) rfl rfl ?_
  refine L_aa (pc' := 162) rfl sh_63 (by decide) (by decide) rfl rfl ?_
  refine L_s (pc' := 163) rfl rfl ?_
  refine L_gf (pc' := 166) rfl fr_2_14 rfl ?_
  refine L_s (pc' := 167) rfl rfl ?_
  refine L_aa (pc' := 168) rfl sh_16 (by decide) (by decide) rfl rfl ?_
  refine L_cv (pc' := 171) (as := [.ref 65, .ref 18]) (rest := []) rfl rfl (e_x_copyInts_c118 (by omega) _) rfl fun g17 => ?_
  refine L_ii (pc' := 174) (L' := [some (.ref 2), some (.ref 49), some (.int 2)]) rfl rfl q1_1 (by decide : (1 : Int32) + 1 = 2) rfl rfl ?_
  refine L_s (pc' := 136) rfl rfl ?_
  refine L_s (pc' := 137) rfl rfl ?_
  refine L_ic (pc' := 138) rfl q1_2 rfl ?_
  refine L_bt (c := (2 : Int32) ≤ 2) (t := 177) (n := 141) rfl rfl (by decide) ?_
  refine L_s (pc' := 178) rfl rfl ?_
  refine L_gf (pc' := 181) rfl fr_49_15 rfl ?_
  refine L_s (pc' := 182) rfl rfl ?_
  refine L_gf (pc' := 185) rfl fr_2_15 rfl ?_
  refine L_cv (pc' := 188) (as := [.ref 66, .ref 19]) (rest := []) rfl rfl (e_x_copyInts_c119 (by omega) _) rfl fun g18 => ?_
  refine L_s (pc' := 189) rfl rfl ?_
  refine L_gf (pc' := 192) rfl fr_49_16 rfl ?_
  refine L_s (pc' := 193) rfl rfl ?_
  refine L_gf (pc' := 196) rfl fr_2_16 rfl ?_
  refine L_cv (pc' := 199) (as := [.ref 67, .ref 20]) (rest := []) rfl rfl (e_x_copyInts_c120 (by omega) _) rfl fun g19 => ?_
  refine L_s (pc' := 200) rfl rfl ?_
  refine L_gf (pc' := 203) rfl fr_49_17 rfl ?_
  refine L_s (pc' := 204) rfl rfl ?_
  refine L_gf (pc' := 207) rfl fr_2_17 rfl ?_
  refine L_cv (pc' := 210) (as := [.ref 68, .ref 21]) (rest := []) rfl rfl (e_x_copyInts_c121 (by omega) _) rfl fun g20 => ?_
  exact L_ret rfl rfl rfl
