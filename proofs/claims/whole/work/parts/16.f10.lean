/-! printed by wip/whole/decomp.py -/
def x_copyInts_c122  (g : Sg) : Option (Sg) :=
  lt1 (cp2 g 70 0 23 0 (Int32.toNatClampNeg 8)) (fun g1 => (some g1))
theorem e_x_copyInts_c122 {X : Xx} {d : Nat} (hd : 1 ≤ d)  (g : Sg) : ∀ r, x_copyInts_c122  g = some r → EvM zft mtl X d 145 [.ref 70, .ref 23] (SHF, g) ((fun r : Sg => ((none, (SHF, r)) : Out)) r) := by
  obtain ⟨d, rfl⟩ : ∃ d0, d = d0 + 1 := ⟨d - 1, by omega⟩
  have hd : 0 ≤ d := by omega
  refine E_in (f := (fun r : Sg => ((none, (SHF, r)) : Out))) rfl (Nat.le_of_ble_eq_true rfl) ?_
  unfold x_copyInts_c122
  change Lt X d none k_145 _ 0 [some (.ref 70), some (.ref 23)] [] g _
  refine L_s (pc' := 1) rfl rfl ?_
  refine L_ic (pc' := 2) rfl q1_0 rfl ?_
  refine L_s (pc' := 3) rfl rfl ?_
  refine L_ic (pc' := 4) rfl q1_0 rfl ?_
  refine L_s (pc' := 5) rfl rfl ?_
  refine L_s (pc' := 6) (st' := [.int 8, .int 0, .ref 23, .int 0, .ref 70]) rfl rfl ?_
  refine L_s (pc' := 7) rfl rfl ?_
  refine L_s (pc' := 8) (st' := [.int 8, .int 8, .int 0, .ref 23, .int 0, .ref 70]) rfl rfl ?_
  refine L_s (pc' := 11) rfl rfl ?_
  refine L_e (b := 8) (by decide) ?_
  refine L_cp (pc' := 14) rfl sh_70 sh_23 (by decide) (by decide) (by decide) (by decide) rfl rfl ?_
  refine L_let fun g1 _ => ?_
  exact L_ret rfl rfl rfl
def x_copyInts_c123  (g : Sg) : Option (Sg) :=
  lt1 (cp2 g 71 0 24 0 (Int32.toNatClampNeg 120)) (fun g1 => (some g1))
theorem e_x_copyInts_c123 {X : Xx} {d : Nat} (hd : 1 ≤ d)  (g : Sg) : ∀ r, x_copyInts_c123  g = some r → EvM zft mtl X d 145 [.ref 71, .ref 24] (SHF, g) ((fun r : Sg => ((none, (SHF, r)) : Out)) r) := by
  obtain ⟨d, rfl⟩ : ∃ d0, d = d0 + 1 := ⟨d - 1, by omega⟩
  have hd : 0 ≤ d := by omega
  refine E_in (f := (fun r : Sg => ((none, (SHF, r)) : Out))) rfl (Nat.le_of_ble_eq_true rfl) ?_
  unfold x_copyInts_c123
  change Lt X d none k_145 _ 0 [some (.ref 71), some (.ref 24)] [] g _
  refine L_s (pc' := 1) rfl rfl ?_
  refine L_ic (pc' := 2) rfl q1_0 rfl ?_
  refine L_s (pc' := 3) rfl rfl ?_
  refine L_ic (pc' := 4) rfl q1_0 rfl ?_
  refine L_s (pc' := 5) rfl rfl ?_
  refine L_s (pc' := 6) (st' := [.int 120, .int 0, .ref 24, .int 0, .ref 71]) rfl rfl ?_
  refine L_s (pc' := 7) rfl rfl ?_
  refine L_s (pc' := 8) (st' := [.int 120, .int 120, .int 0, .ref 24, .int 0, .ref 71]) rfl rfl ?_
  refine L_s (pc' := 11) rfl rfl ?_
  refine L_e (b := 120) (by decide) ?_
  refine L_cp (pc' := 14) rfl sh_71 sh_24 (by decide) (by decide) (by decide) (by decide) rfl rfl ?_
  refine L_let fun g1 _ => ?_
  exact L_ret rfl rfl rfl
def x_copyInts_c124  (g : Sg) : Option (Sg) :=
  lt1 (cp2 g 72 0 25 0 (Int32.toNatClampNeg 120)) (fun g1 => (some g1))
theorem e_x_copyInts_c124 {X : Xx} {d : Nat} (hd : 1 ≤ d)  (g : Sg) : ∀ r, x_copyInts_c124  g = some r → EvM zft mtl X d 145 [.ref 72, .ref 25] (SHF, g) ((fun r : Sg => ((none, (SHF, r)) : Out)) r) := by
  obtain ⟨d, rfl⟩ : ∃ d0, d = d0 + 1 := ⟨d - 1, by omega⟩
  have hd : 0 ≤ d := by omega
  refine E_in (f := (fun r : Sg => ((none, (SHF, r)) : Out))) rfl (Nat.le_of_ble_eq_true rfl) ?_
  unfold x_copyInts_c124
  change Lt X d none k_145 _ 0 [some (.ref 72), some (.ref 25)] [] g _
  refine L_s (pc' := 1) rfl rfl ?_
  refine L_ic (pc' := 2) rfl q1_0 rfl ?_
  refine L_s (pc' := 3) rfl rfl ?_
  refine L_ic (pc' := 4) rfl q1_0 rfl ?_
  refine L_s (pc' := 5) rfl rfl ?_
  refine L_s (pc' := 6) (st' := [.int 120, .int 0, .ref 25, .int 0, .ref 72]) rfl rfl ?_
  refine L_s (pc' := 7) rfl rfl ?_
  refine L_s (pc' := 8) (st' := [.int 120, .int 120, .int 0, .ref 25, .int 0, .ref 72]) rfl rfl ?_
  refine L_s (pc' := 11) rfl rfl ?_
  refine L_e (b := 120) (by decide) ?_
  refine L_cp (pc' := 14) rfl sh_72 sh_25 (by decide) (by decide) (by decide) (by decide) rfl rfl ?_
  refine L_let fun g1 _ => ?_
  exact L_ret rfl rfl rfl
def x_copyInts_c125  (g : Sg) : Option (Sg) :=
  lt1 (cp2 g 73 0 26 0 (Int32.toNatClampNeg 120)) (fun g1 => (some g1))
theorem e_x_copyInts_c125 {X : Xx} {d : Nat} (hd : 1 ≤ d)  (g : Sg) : ∀ r, x_copyInts_c125  g = some r → EvM zft mtl X d 145 [.ref 73, .ref 26] (SHF, g) ((fun r : Sg => ((none, (SHF, r)) : Out)) r) := by
  obtain ⟨d, rfl⟩ : ∃ d0, d = d0 + 1 := ⟨d - 1, by omega⟩
  have hd : 0 ≤ d := by omega
  refine E_in (f := (fun r : Sg => ((none, (SHF, r)) : Out))) rfl (Nat.le_of_ble_eq_true rfl) ?_
  unfold x_copyInts_c125
  change Lt X d none k_145 _ 0 [some (.ref 73), some (.ref 26)] [] g _
  refine L_s (pc' := 1) rfl rfl ?_
  refine L_ic (pc' := 2) rfl q1_0 rfl ?_
  refine L_s (pc' := 3) rfl rfl ?_
  refine L_ic (pc' := 4) rfl q1_0 rfl ?_
  refine L_s (pc' := 5) rfl rfl ?_
  refine L_s (pc' := 6) (st' := [.int 120, .int 0, .ref 26, .int 0, .ref 73]) rfl rfl ?_
  refine L_s (pc' := 7) rfl rfl ?_
  refine L_s (pc' := 8) (st' := [.int 120, .int 120, .int 0, .ref 26, .int 0, .ref 73]) rfl rfl ?_
  refine L_s (pc' := 11) rfl rfl ?_
  refine L_e (b := 120) (by decide) ?_
  refine L_cp (pc' := 14) rfl sh_73 sh_26 (by decide) (by decide) (by decide) (by decide) rfl rfl ?_
  refine L_let fun g1 _ => ?_
  exact L_ret rfl rfl rfl
def x_copyInts_c126  (g : Sg) : Option (Sg) :=
  lt1 (cp2 g 74 0 27 0 (Int32.toNatClampNeg 120)) (fun g1 => (some g1))
theorem e_x_copyInts_c126 {X : Xx} {d : Nat} (hd : 1 ≤ d)  (g : Sg) : ∀ r, x_copyInts_c126  g = some r → EvM zft mtl X d 145 [.ref 74, .ref 27] (SHF, g) ((fun r : Sg => ((none, (SHF, r)) : Out)) r) := by
  obtain ⟨d, rfl⟩ : ∃ d0, d = d0 + 1 := ⟨d - 1, by omega⟩
  have hd : 0 ≤ d := by omega
  refine E_in (f := (fun r : Sg => ((none, (SHF, r)) : Out))) rfl (Nat.le_of_ble_eq_true rfl) ?_
  unfold x_copyInts_c126
  change Lt X d none k_145 _ 0 [some (.ref 74), some (.ref 27)] [] g _
  refine L_s (pc' := 1) rfl rfl ?_
  refine L_ic (pc' := 2) rfl q1_0 rfl ?_
  refine L_s (pc' := 3) rfl rfl ?_
  refine L_ic (pc' := 4) rfl q1_0 rfl ?_
  refine L_s (pc' := 5) rfl rfl ?_
  refine L_s (pc' := 6) (st' := [.int 120, .int 0, .ref 27, .int 0, .ref 74]) rfl rfl ?_
  refine L_s (pc' := 7) rfl rfl ?_
  refine L_s (pc' := 8) (st' := [.int 120, .int 120, .int 0, .ref 27, .int 0, .ref 74]) rfl rfl ?_
  refine L_s (pc' := 11) rfl rfl ?_
  refine L_e (b := 120) (by decide) ?_
  refine L_cp (pc' := 14) rfl sh_74 sh_27 (by decide) (by decide) (by decide) (by decide) rfl rfl ?_
  refine L_let fun g1 _ => ?_
  exact L_ret rfl rfl rfl
def x_copyInts_c127  (g : Sg) : Option (Sg) :=
  lt1 (cp2 g 75 0 28 0 (Int32.toNatClampNeg 120)) (fun g1 => (some g1))
theorem e_x_copyInts_c127 {X : Xx} {d : Nat} (hd : 1 ≤ d)  (g : Sg) : ∀ r, x_copyInts_c127  g = some r → EvM zft mtl X d 145 [.ref 75, .ref 28] (SHF, g) ((fun r : Sg => ((none, (SHF, r)) : Out)) r) := by
  obtain ⟨d, rfl⟩ : ∃ d0, d = d0 + 1 := ⟨d - 1, by omega⟩
  have hd : 0 ≤ d := by omega
  refine E_in (f := (fun r : Sg => ((none, (SHF, r)) : Out))) rfl (Nat.le_of_ble_eq_true rfl) ?_
  unfold x_copyInts_c127
  change Lt X d none k_145 _ 0 [some (.ref 75), some (.ref 28)] [] g _
  refine L_s (pc' := 1) rfl rfl ?_
  refine L_ic (pc' := 2) rfl q1_0 rfl ?_
  refine L_s (pc' := 3) rfl rfl ?_
  refine L_ic (pc' := 4) rfl q1_0 rfl ?_
  refine L_s (pc' := 5) rfl rfl ?_
  refine L_s (pc' := 6) (st' := [.int 120, .int 0, .ref 28, .int 0, .ref 75]) rfl rfl ?_
  refine L_s (pc' := 7) rfl rfl ?_
  refine L_s (pc' := 8) (st' := [.int 120, .int 120, .int 0, .ref 28, .int 0, .ref 75]) rfl rfl ?_
  refine L_s (pc' := 11) rfl rfl ?_
  refine L_e (b := 120) (by decide) ?_
  refine L_cp (pc' := 14) rfl sh_75 sh_28 (by decide) (by decide) (by decide) (by decide) rfl rfl ?_
  refine L_let fun g1 _ => ?_
  exact L_ret rfl rfl rfl
def x_copyInts_c128  (g : Sg) : Option (Sg) :=
  lt1 (cp2 g 76 0 29 0 (Int32.toNatClampNeg 120)) (fun g1 => (some g1))
theorem e_x_copyInts_c128 {X : Xx} {d : Nat} (hd : 1 ≤ d)  (g : Sg) : ∀ r, x_copyInts_c128  g = some r → EvM zft mtl X d 145 [.ref 76, .ref 29] (SHF, g) ((fun r : Sg => ((none, (SHF, r)) : Out)) r) := by
  obtain ⟨d, rfl⟩ : ∃ d0, d = d0 + 1 := ⟨d - 1, by omega⟩
  have hd : 0 ≤ d := by omega
  refine E_in (f := (fun r : Sg => ((none, (SHF, r)) : Out))) rfl (Nat.le_of_ble_eq_true rfl) ?_
  unfold x_copyInts_c128
  change Lt X d none k_145 _ 0 [some (.ref 76), some (.ref 29)] [] g _
  refine L_s (pc' := 1) rfl rfl ?_
  refine L_ic (pc' := 2) rfl q1_0 rfl ?_
  refine L_s (pc' := 3) rfl rfl ?_
  refine L_ic (pc' := 4) rfl q1_0 rfl ?_
  refine L_s (pc' := 5) rfl rfl ?_
  refine L_s (pc' := 6) (st' := [.int 120, .int 0, .ref 29, .int 0, .ref 76]) rfl rfl ?_
  refine L_s (pc' := 7) rfl rfl ?_
  refine L_s (pc' := 8) (st' := [.int 120, .int 120, .int 0, .ref 29, .int 0, .ref 76]) rfl rfl ?_
  refine L_s (pc' := 11) rfl rfl ?_
  refine L_e (b := 120) (by decide) ?_
  refine L_cp (pc' := 14) rfl sh_76 sh_29 (by decide) (by decide) (by decide) (by decide) rfl rfl ?_
  refine L_let fun g1 _ => ?_
  exact L_ret rfl rfl rfl
def x_copyBytes_c6  (g : Sg) : Option (Sg) :=
  lt1 (cp2 g 77 0 30 0 (Int32.toNatClampNeg 2400)) (fun g1 => (some g1))
theorem e_x_copyBytes_c6 {X : Xx} {d : Nat} (hd : 1 ≤ d)  (g : Sg) : ∀ r, x_copyBytes_c6  g = some r → EvM zft mtl X d 146 [.ref 77, .ref 30] (SHF, g) ((fun r : Sg => ((none, (SHF, r)) : Out)) r) := by
  obtain ⟨d, rfl⟩ : ∃ d0, d = d0 + 1 := ⟨d - 1, by omega⟩
  have hd : 0 ≤ d := by omega
  refine E_in (f := (fun r : Sg => ((none, (SHF, r)) : Out))) rfl (Nat.le_of_ble_eq_true rfl) ?_
  unfold x_copyBytes_c6
  change Lt X d none k_146 _ 0 [some (.ref 77), some (.ref 30)] [] g _
  refine L_s (pc' := 1) rfl rfl ?_
  refine L_ic (pc' := 2) rfl q1_0 rfl ?_
  refine L_s (pc' := 3) rfl rfl ?_
  refine L_ic (pc' := 4) rfl q1_0 rfl ?_
  refine L_s (pc' := 5) rfl rfl ?_
  refine L_s (pc' := 6) (st' := [.int 2400, .int 0, .ref 30, .int 0, .ref 77]) rfl rfl ?_
  refine L_s (pc' := 7) rfl rfl ?_
  refine L_s (pc' := 8) (st' := [.int 2400, .int 2400, .int 0, .ref 30, .int 0, .ref 77]) rfl rfl ?_
  refine L_s (pc' := 11) rfl rfl ?_
  refine L_e (b := 2400) (by decide) ?_
  refine L_cp (pc' := 14) rfl sh_77 sh_30 (by decide) (by decide) (by decide) (by decide) rfl rfl ?_
  refine L_let fun g1 _ => ?_
  exact L_ret rfl rfl rfl
def rights_copyFrom_c3  (g : Sg) : Option (Sg) :=
  Option.bind (x_copyInts_c122 g) (fun g1 => lt1 (up2 g1 22 1 (g1 69 1)) (fun g2 => Option.bind (x_copyInts_c123 g2) (fun g3 => Option.bind (x_copyInts_c124 g3) (fun g4 => Option.bind (x_copyInts_c125 g4) (fun g5 => Option.bind (x_copyInts_c126 g5) (fun g6 => Option.bind (x_copyInts_c127 g6) (fun g7 => Option.bind (x_copyInts_c128 g7) (fun g8 => lt1 (up2 g8 22 8 (g8 69 8)) (fun g9 => Option.bind (x_copyBytes_c6 g9) (fun g10 => (some g10)))))))))))
theorem e_rights_copyFrom_c3 {X : Xx} {d : Nat} (hd : 2 ≤ d)  (g : Sg) : ∀ r, rights_copyFrom_c3  g = some r → EvM zft mtl X d 77 [.ref 22, .ref 69] (SHF, g) ((fun r : Sg => ((none, (SHF, r)) : Out)) r) := by
  obtain ⟨d, rfl⟩ : ∃ d0, d = d0 + 1 := ⟨d - 1, by omega⟩
  have hd : 1 ≤ d := by omega
  refine E_in (f := (fun r : Sg => ((none, (SHF, r)) : Out))) rfl (Nat.le_of_ble_eq_true rfl) ?_
  unfold rights_copyFrom_c3
  change Lt X d none k_77 _ 0 [some (.ref 22), some (.ref 69)] [] g _
  refine L_s (pc' := 1) rfl rfl ?_
  refine L_gf (pc' := 4) rfl fr_69_0 rfl ?_
  refine L_s (pc' := 5) rfl rfl ?_
  refine L_gf (pc' := 8) rfl fr_22_0 rfl ?_
  refine L_cv (pc' := 11) (as := [.ref 70, .ref 23]) (rest := []) rfl rfl (e_x_copyInts_c122 (by omega) _) rfl fun g1 => ?_
  refine L_s (pc' := 12) rfl rfl ?_
  refine L_s (pc' := 13) rfl rfl ?_
  refine L_gf (pc' := 16) rfl fi_69_1 rfl ?_
  refine L_pf (pc' := 19) rfl sh_22 (by decide) rfl rfl ?_
  refine L_let fun g2 _ => ?_
  refine L_s (pc' := 20) rfl rfl ?_
  refine L_gf (pc' := 23) rfl fr_69_2 rfl ?_
  refine L_s (pc' := 24) rfl rfl ?_
  refine L_gf (pc' := 27) rfl fr_22_2 rfl ?_
  refine L_cv (pc' := 30) (as := [.ref 71, .ref 24]) (rest := []) rfl rfl (e_x_copyInts_c123 (by omega) _) rfl fun g3 => ?_
  refine L_s (pc' := 31) rfl rfl ?_
  refine L_gf (pc' := 34) rfl fr_69_3 rfl ?_
  refine L_s (pc' := 35) rfl rfl ?_
  refine L_gf (pc' := 38) rfl fr_22_3 rfl ?_
  refine L_cv (pc' := 41) (as := [.ref 72, .ref 25]) (rest := []) rfl rfl (e_x_copyInts_c124 (by omega) _) rfl fun g4 => ?_
  refine L_s (pc' := 42) rfl rfl ?_
  refine L_gf (pc' := 45) rfl fr_69_4 rfl ?_
  refine L_s (pc' := 46) rfl rfl ?_
  refine L_gf (pc' := 49) rfl fr_22_4 rfl ?_
  refine L_cv (pc' := 52) (as := [.ref 73, .ref 26]) (rest := []) rfl rfl (e_x_copyInts_c125 (by omega) _) rfl fun g5 => ?_
  refine L_s (pc' := 53) rfl rfl ?_
  refine L_gf (pc' := 56) rfl fr_69_5 rfl ?_
  refine L_s (pc' := 57) rfl rfl ?_
  refine L_gf (pc' := 60) rfl fr_22_5 rfl ?_
  refine L_cv (pc' := 63) (as := [.ref 74, .ref 27]) (rest := []) rfl rfl (e_x_copyInts_c126 (by omega) _) rfl fun g6 => ?_
  refine L_s (pc' := 64) rfl rfl ?_
  refine L_gf (pc' := 67) rfl fr_69_6 rfl ?_
  refine L_s (pc' := 68) rfl rfl ?_
  refine L_gf (pc' := 71) rfl fr_22_6 rfl ?_
  refine L_cv (pc' := 74) (as := [.ref 75, .ref 28]) (rest := []) rfl rfl (e_x_copyInts_c127 (by omega) _) rfl fun g7 => ?_
  refine L_s (pc' := 75) rfl rfl ?_
  refine L_gf (pc' := 78) rfl fr_69_7 rfl ?_
  refine L_s (pc' := 79) rfl rfl ?_
  refine L_gf (pc' := 82) rfl fr_22_7 rfl ?_
  refine L_cv (pc' := 85) (as := [.ref 76, .ref 29]) (rest := []) rfl rfl (e_x_copyInts_c128 (by omega) _) rfl fun g8 => ?_
  refine L_s (pc' := 86) rfl rfl ?_
  refine L_s (pc' := 87) rfl rfl ?_
  refine L_gf (pc' := 90) rfl fi_69_8 rfl ?_
  refine L_pf (pc' := 93) rfl sh_22 (by decide) rfl rfl ?_
  refine L_let fun g9 _ => ?_
  refine L_s (pc' := 94) rfl rfl ?_
  refine L_gf (pc' := 97) rfl fr_69_9 rfl ?_
  refine L_s (pc' := 98) rfl rfl ?_
  refine L_gf (pc' := 101) rfl fr_22_9 rfl ?_
  refine L_cv (pc' := 104) (as := [.ref 77, .ref 30]) (rest := []) rfl rfl (e_x_copyBytes_c6 (by omega) _) rfl fun g10 => ?_
  exact L_ret rfl rfl rfl
def x_copyBytes_c7  (g : Sg) : Option (Sg) :=
  lt1 (cp2 g 79 0 32 0 (Int32.toNatClampNeg 500)) (fun g1 => (some g1))
theorem e_x_copyBytes_c7 {X : Xx} {d : Nat} (hd : 1 ≤ d)  (g : Sg) : ∀ r, x_copyBytes_c7  g = some r → EvM zft mtl X d 146 [.ref 79, .ref 32] (SHF, g) ((fun r : Sg => ((none, (SHF, r)) : Out)) r) := by
  obtain ⟨d, rfl⟩ : ∃ d0, d = d0 + 1 := ⟨d - 1, by omega⟩
  have hd : 0 ≤ d := by omega
  refine E_in (f := (fun r : Sg => ((none, (SHF, r)) : Out))) rfl (Nat.le_of_ble_eq_true rfl) ?_
  unfold x_copyBytes_c7
  change Lt X d none k_146 _ 0 [some (.ref 79), some (.ref 32)] [] g _
  refine L_s (pc' := 1) rfl rfl ?_
  refine L_ic (pc' := 2) rfl q1_0 rfl ?_
  refine L_s (pc' := 3) rfl rfl ?_
  refine L_ic (pc' := 4) rfl q1_0 rfl ?_
  refine L_s (pc' := 5) rfl rfl ?_
  refine L_s (pc' := 6) (st' := [.int 500, .int 0, .ref 32, .int 0, .ref 79]) rfl rfl ?_
  refine L_s (pc' := 7) rfl rfl ?_
  refine L_s (pc' := 8) (st' := [.int 500, .int 500, .int 0, .ref 32, .int 0, .ref 79]) rfl rfl ?_
  refine L_s (pc' := 11) rfl rfl ?_
  refine L_e (b := 500) (by decide) ?_
  refine L_cp (pc' := 14) rfl sh_79 sh_32 (by decide) (by decide) (by decide) (by decide) rfl rfl ?_
  refine L_let fun g1 _ => ?_
  exact L_ret rfl rfl rfl
def x_copyInts_c129  (g : Sg) : Option (Sg) :=
  lt1 (cp2 g 81 0 34 0 (Int32.toNatClampNeg 16)) (fun g1 => (some g1))
theorem e_x_copyInts_c129 {X : Xx} {d : Nat} (hd : 1 ≤ d)  (g : Sg) : ∀ r, x_copyInts_c129  g = some r → EvM zft mtl X d 145 [.ref 81, .ref 34] (SHF, g) ((fun r : Sg => ((none, (SHF, r)) : Out)) r) := by
  obtain ⟨d, rfl⟩ : ∃ d0, d = d0 + 1 := ⟨d - 1, by omega⟩
  have hd : 0 ≤ d := by omega
  refine E_in (f := (fun r : Sg => ((none, (SHF, r)) : Out))) rfl (Nat.le_of_ble_eq_true rfl) ?_
  unfold x_copyInts_c129
  change Lt X d none k_145 _ 0 [some (.ref 81), some (.ref 34)] [] g _
  refine L_s (pc' := 1) rfl rfl ?_
  refine L_ic (pc' := 2) rfl q1_0 rfl ?_
  refine L_s (pc' := 3) rfl rfl ?_
  refine L_ic (pc' := 4) rfl q1_0 rfl ?_
  refine L_s (pc' := 5) rfl rfl ?_
  refine L_s (pc' := 6) (st' := [.int 16, .int 0, .ref 34, .int 0, .ref 81]) rfl rfl ?_
  refine L_s (pc' := 7) rfl rfl ?_
  refine L_s (pc' := 8) (st' := [.int 16, .int 16, .int 0, .ref 34, .int 0, .ref 81]) rfl rfl ?_
  refine L_s (pc' := 11) rfl rfl ?_
  refine L_e (b := 16) (by decide) ?_
  refine L_cp (pc' := 14) rfl sh_81 sh_34 (by decide) (by decide) (by decide) (by decide) rfl rfl ?_
  refine L_let fun g1 _ => ?_
  exact L_ret rfl rfl rfl
def x_copyInts_c130  (g : Sg) : Option (Sg) :=
  lt1 (cp2 g 82 0 35 0 (Int32.toNatClampNeg 16)) (fun g1 => (some g1))
theorem e_x_copyInts_c130 {X : Xx} {d : Nat} (hd : 1 ≤ d)  (g : Sg) : ∀ r, x_copyInts_c130  g = some r → EvM zft mtl X d 145 [.ref 82, .ref 35] (SHF, g) ((fun r : Sg => ((none, (SHF, r)) : Out)) r) := by
  obtain ⟨d, rfl⟩ : ∃ d0, d = d0 + 1 := ⟨d - 1, by omega⟩
  have hd : 0 ≤ d := by omega
  refine E_in (f := (fun r : Sg => ((none, (SHF, r)) : Out))) rfl (Nat.le_of_ble_eq_true rfl) ?_
  unfold x_copyInts_c130
  change Lt X d none k_145 _ 0 [some (.ref 82), some (.ref 35)] [] g _
  refine L_s (pc' := 1) rfl rfl ?_
  refine L_ic (pc' := 2) rfl q1_0 rfl ?_
  refine L_s (pc' := 3) rfl rfl ?_
  refine L_ic (pc' := 4) rfl q1_0 rfl ?_
  refine L_s (pc' := 5) rfl rfl ?_
  refine L_s (pc' := 6) (st' := [.int 16, .int 0, .ref 35, .int 0, .ref 82]) rfl rfl ?_
  refine L_s (pc' := 7) rfl rfl ?_
  refine L_s (pc' := 8) (st' := [.int 16, .int 16, .int 0, .ref 35, .int 0, .ref 82]) rfl rfl ?_
  refine L_s (pc' := 11) rfl rfl ?_
  refine L_e (b := 16) (by decide) ?_
  refine L_cp (pc' := 14) rfl sh_82 sh_35 (by decide) (by decide) (by decide) (by decide) rfl rfl ?_
  refine L_let fun g1 _ => ?_
  exact L_ret rfl rfl rfl
def x_copyInts_c131  (g : Sg) : Option (Sg) :=
  lt1 (cp2 g 83 0 36 0 (Int32.toNatClampNeg 16)) (fun g1 => (some g1))
theorem e_x_copyInts_c131 {X : Xx} {d : Nat} (hd : 1 ≤ d)  (g : Sg) : ∀ r, x_copyInts_c131  g = some r → EvM zft mtl X d 145 [.ref 83, .ref 36] (SHF, g) ((fun r : Sg => ((none, (SHF, r)) : Out)) r) := by
  obtain ⟨d, rfl⟩ : ∃ d0, d = d0 + 1 := ⟨d - 1, by omega⟩
  have hd : 0 ≤ d := by omega
  refine E_in (f := (fun r : Sg => ((none, (SHF, r)) : Out))) rfl (Nat.le_of_ble_eq_true rfl) ?_
  unfold x_copyInts_c131
  change Lt X d none k_145 _ 0 [some (.ref 83), some (.ref 36)] [] g _
  refine L_s (pc' := 1) rfl rfl ?_
  refine L_ic (pc' := 2) rfl q1_0 rfl ?_
  refine L_s (pc' := 3) rfl rfl ?_
  refine L_ic (pc' := 4) rfl q1_0 rfl ?_
  refine L_s (pc' := 5) rfl rfl ?_
  refine L_s (pc' := 6) (st' := [.int 16, .int 0, .ref 36, .int 0, .ref 83]) rfl rfl ?_
  refine L_s (pc' := 7) rfl rfl ?_
  refine L_s (pc' := 8) (st' := [.int 16, .int 16, .int 0, .ref 36, .int 0, .ref 83]) rfl rfl ?_
  refine L_s (pc' := 11) rfl rfl ?_
  refine L_e (b := 16) (by decide) ?_
  refine L_cp (pc' := 14) rfl sh_83 sh_36 (by decide) (by decide) (by decide) (by decide) rfl rfl ?_
  refine L_let fun g1 _ => ?_
  exact L_ret rfl rfl rfl
def x_copyFlags_c11  (g : Sg) : Option (Sg) :=
  lt1 (cp2 g 84 0 37 0 (Int32.toNatClampNeg 64)) (fun g1 => (some g1))
theorem e_x_copyFlags_c11 {X : Xx} {d : Nat} (hd : 1 ≤ d)  (g : Sg) : ∀ r, x_copyFlags_c11  g = some r → EvM zft mtl X d 147 [.ref 84, .ref 37] (SHF, g) ((fun r : Sg => ((none, (SHF, r)) : Out)) r) := by
  obtain ⟨d, rfl⟩ : ∃ d0, d = d0 + 1 := ⟨d - 1, by omega⟩
  have hd : 0 ≤ d := by omega
  refine E_in (f := (fun r : Sg => ((none, (SHF, r)) : Out))) rfl (Nat.le_of_ble_eq_true rfl) ?_
  unfold x_copyFlags_c11
  change Lt X d none k_147 _ 0 [some (.ref 84), some (.ref 37)] [] g _
  refine L_s (pc' := 1) rfl rfl ?_
  refine L_ic (pc' := 2) rfl q1_0 rfl ?_
  refine L_s (pc' := 3) rfl rfl ?_
  refine L_ic (pc' := 4) rfl q1_0 rfl ?_
  refine L_s (pc' := 5) rfl rfl ?_
  refine L_s (pc' := 6) (st' := [.int 64, .int 0, .ref 37, .int 0, .ref 84]) rfl rfl ?_
  refine L_s (pc' := 7) rfl rfl ?_
  refine L_s (pc' := 8) (st' := [.int 64, .int 64, .int 0, .ref 37, .int 0, .ref 84]) rfl rfl ?_
  refine L_s (pc' := 11) rfl rfl ?_
  refine L_e (b := 64) (by decide) ?_
  refine L_cp (pc' := 14) rfl sh_84 sh_37 (by decide) (by decide) (by decide) (by decide) rfl rfl ?_
  refine L_let fun g1 _ => ?_
  exact L_ret rfl rfl rfl
def x_copyInts_c132  (g : Sg) : Option (Sg) :=
  lt1 (cp2 g 85 0 38 0 (Int32.toNatClampNeg 64)) (fun g1 => (some g1))
theorem e_x_copyInts_c132 {X : Xx} {d : Nat} (hd : 1 ≤ d)  (g : Sg) : ∀ r, x_copyInts_c132  g = some r → EvM zft mtl X d 145 [.ref 85, .ref 38] (SHF, g) ((fun r : Sg => ((none, (SHF, r)) : Out)) r) := by
  obtain ⟨d, rfl⟩ : ∃ d0, d = d0 + 1 := ⟨d - 1, by omega⟩
  have hd : 0 ≤ d := by omega
  refine E_in (f := (fun r : Sg => ((none, (SHF, r)) : Out))) rfl (Nat.le_of_ble_eq_true rfl) ?_
  unfold x_copyInts_c132
  change Lt X d none k_145 _ 0 [some (.ref 85), some (.ref 38)] [] g _
  refine L_s (pc' := 1) rfl rfl ?_
  refine L_ic (pc' := 2) rfl q1_0 rfl ?_
  refine L_s (pc' := 3) rfl rfl ?_
  refine L_ic (pc' := 4) rfl q1_0 rfl ?_
  refine L_s (pc' := 5) rfl rfl ?_
  refine L_s (pc' := 6) (st' := [.int 64, .int 0, .ref 38, .int 0, .ref 85]) rfl rfl ?_
  refine L_s (pc' := 7) rfl rfl ?_
  refine L_s (pc' := 8) (st' := [.int 64, .int 64, .int 0, .ref 38, .int 0, .ref 85]) rfl rfl ?_
  refine L_s (pc' := 11) rfl rfl ?_
  refine L_e (b := 64) (by decide) ?_
  refine L_cp (pc' := 14) rfl sh_85 sh_38 (by decide) (by decide) (by decide) (by decide) rfl rfl ?_
  refine L_let fun g1 _ => ?_
  exact L_ret rfl rfl rfl
def x_copyInts_c133  (g : Sg) : Option (Sg) :=
  lt1 (cp2 g 86 0 39 0 (Int32.toNatClampNeg 64)) (fun g1 => (some g1))
theorem e_x_copyInts_c133 {X : Xx} {d : Nat} (hd : 1 ≤ d)  (g : Sg) : ∀ r, x_copyInts_c133  g = some r → EvM zft mtl X d 145 [.ref 86, .ref 39] (SHF, g) ((fun r : Sg => ((none, (SHF, r)) : Out)) r) := by
  obtain ⟨d, rfl⟩ : ∃ d0, d = d0 + 1 := ⟨d - 1, by omega⟩
  have hd : 0 ≤ d := by omega
  refine E_in (f := (fun r : Sg => ((none, (SHF, r)) : Out))) rfl (Nat.le_of_ble_eq_true rfl) ?_
  unfold x_copyInts_c133
  change Lt X d none k_145 _ 0 [some (.ref 86), some (.ref 39)] [] g _
  refine L_s (pc' := 1) rfl rfl ?_
  refine L_ic (pc' := 2) rfl q1_0 rfl ?_
  refine L_s (pc' := 3) rfl rfl ?_
  refine L_ic (pc' := 4) rfl q1_0 rfl ?_
  refine L_s (pc' := 5) rfl rfl ?_
  refine L_s (pc' := 6) (st' := [.int 64, .int 0, .ref 39, .int 0, .ref 86]) rfl rfl ?_
  refine L_s (pc' := 7) rfl rfl ?_
  refine L_s (pc' := 8) (st' := [.int 64, .int 64, .int 0, .ref 39, .int 0, .ref 86]) rfl rfl ?_
  refine L_s (pc' := 11) rfl rfl ?_
  refine L_e (b := 64) (by decide) ?_
  refine L_cp (pc' := 14) rfl sh_86 sh_39 (by decide) (by decide) (by decide) (by decide) rfl rfl ?_
  refine L_let fun g1 _ => ?_
  exact L_ret rfl rfl rfl
def x_copyInts_c134  (g : Sg) : Option (Sg) :=
  lt1 (cp2 g 87 0 40 0 (Int32.toNatClampNeg 64)) (fun g1 => (some g1))
theorem e_x_copyInts_c134 {X : Xx} {d : Nat} (hd : 1 ≤ d)  (g : Sg) : ∀ r, x_copyInts_c134  g = some r → EvM zft mtl X d 145 [.ref 87, .ref 40] (SHF, g) ((fun r : Sg => ((none, (SHF, r)) : Out)) r) := by
  obtain ⟨d, rfl⟩ : ∃ d0, d = d0 + 1 := ⟨d - 1, by omega⟩
  have hd : 0 ≤ d := by omega
  refine E_in (f := (fun r : Sg => ((none, (SHF, r)) : Out))) rfl (Nat.le_of_ble_eq_true rfl) ?_
  unfold x_copyInts_c134
  change Lt X d none k_145 _ 0 [some (.ref 87), some (.ref 40)] [] g _
  refine L_s (pc' := 1) rfl rfl ?_
  refine L_ic (pc' := 2) rfl q1_0 rfl ?_
  refine L_s (pc' := 3) rfl rfl ?_
  refine L_ic (pc' := 4) rfl q1_0 rfl ?_
  refine L_s (pc' := 5) rfl rfl ?_
  refine L_s (pc' := 6) (st' := [.int 64, .int 0, .ref 40, .int 0, .ref 87]) rfl rfl ?_
  refine L_s (pc' := 7) rfl rfl ?_
  refine L_s (pc' := 8) (st' := [.int 64, .int 64, .int 0, .ref 40, .int 0, .ref 87]) rfl rfl ?_
  refine L_s (pc' := 11) rfl rfl ?_
  refine L_e (b := 64) (by decide) ?_
  refine L_cp (pc' := 14) rfl sh_87 sh_40 (by decide) (by decide) (by decide) (by decide) rfl rfl ?_
  refine L_let fun g1 _ => ?_
  exact L_ret rfl rfl rfl
def lines_copyFrom_c4  (g : Sg) : Option (Sg) :=
  lt1 (up2 g 33 0 (g 80 0)) (fun g1 => Option.bind (x_copyInts_c129 g1) (fun g2 => Option.bind (x_copyInts_c130 g2) (fun g3 => Option.bind (x_copyInts_c131 g3) (fun g4 => Option.bind (x_copyFlags_c11 g4) (fun g5 => Option.bind (x_copyInts_c132 g5) (fun g6 => Option.bind (x_copyInts_c133 g6) (fun g7 => Option.bind (x_copyInts_c134 g7) (fun g8 => (some g8)))))))))
theorem e_lines_copyFrom_c4 {X : Xx} {d : Nat} (hd : 2 ≤ d)  (g : Sg) : ∀ r, lines_copyFrom_c4  g = some r → EvM zft mtl X d 20 [.ref 33, .ref 80] (SHF, g) ((fun r : Sg => ((none, (SHF, r)) : Out)) r) := by
  obtain ⟨d, rfl⟩ : ∃ d0, d = d0 + 1 := ⟨d - 1, by omega⟩
  have hd : 1 ≤ d := by omega
  refine E_in (f := (fun r : Sg => ((none, (SHF, r)) : Out))) rfl (Nat.le_of_ble_eq_true rfl) ?_
  unfold lines_copyFrom_c4
  change Lt X d none k_20 _ 0 [some (.ref 33), some (.ref 80)] [] g _
  refine L_s (pc' := 1) rfl rfl ?_
  refine L_s (pc' := 2) rfl rfl ?_
  refine L_gf (pc' := 5) rfl fi_80_0 rfl ?_
  refine L_pf (pc' := 8) rfl sh_33 (by decide) rfl rfl ?_
  refine L_let fun g1 _ => ?_
  refine L_s (pc' := 9) rfl rfl ?_
  refine L_gf (pc' := 12) rfl fr_80_1 rfl ?_
  refine L_s (pc' := 13) rfl rfl ?_
  refine L_gf (pc' := 16) rfl fr_33_1 rfl ?_
  refine L_cv (pc' := 19) (as := [.ref 81, .ref 34]) (rest := []) rfl rfl (e_x_copyInts_c129 (by omega) _) rfl fun g2 => ?_
  refine L_s (pc' := 20) rfl rfl ?_
  refine L_gf (pc' := 23) rfl fr_80_2 rfl ?_
  refine L_s (pc' := 24) rfl rfl ?_
  refine L_gf (pc' := 27) rfl fr_33_2 rfl ?_
  refine L_cv (pc' := 30) (as := [.ref 82, .ref 35]) (rest := []) rfl rfl (e_x_copyInts_c130 (by omega) _) rfl fun g3 => ?_
  refine L_s (pc' := 31) rfl rfl ?_
  refine L_gf (pc' := 34) rfl fr_80_3 rfl ?_
  refine L_s (pc' := 35) rfl rfl ?_
  refine L_gf (pc' := 38) rfl fr_33_3 rfl ?_
  refine L_cv (pc' := 41) (as := [.ref 83, .ref 36]) (rest := []) rfl rfl (e_x_copyInts_c131 (by omega) _) rfl fun g4 => ?_
  refine L_s (pc' := 42) rfl rfl ?_
  refine L_gf (pc' := 45) rfl fr_80_4 rfl ?_
  refine L_s (pc' := 46) rfl rfl ?_
  refine L_gf (pc' := 49) rfl fr_33_4 rfl ?_
  refine L_cv (pc' := 52) (as := [.ref 84, .ref 37]) (rest := []) rfl rfl (e_x_copyFlags_c11 (by omega) _) rfl fun g5 => ?_
  refine L_s (pc' := 53) rfl rfl ?_
  refine L_gf (pc' := 56) rfl fr_80_5 rfl ?_
  refine L_s (pc' := 57) rfl rfl ?_
  refine L_gf (pc' := 60) rfl fr_33_5 rfl ?_
  refine L_cv (pc' := 63) (as := [.ref 85, .ref 38]) (rest := []) rfl rfl (e_x_copyInts_c132 (by omega) _) rfl fun g6 => ?_
  refine L_s (pc' := 64) rfl rfl ?_
  refine L_gf (pc' := 67) rfl fr_80_6 rfl ?_
  refine L_s (pc' := 68) rfl rfl ?_
  refine L_gf (pc' := 71) rfl fr_33_6 rfl ?_
  refine L_cv (pc' := 74) (as := [.ref 86, .ref 39]) (rest := []) rfl rfl (e_x_copyInts_c133 (by omega) _) rfl fun g7 => ?_
  refine L_s (pc' := 75) rfl rfl ?_
  refine L_gf (pc' := 78) rfl fr_80_7 rfl ?_
  refine L_s (pc' := 79) rfl rfl ?_
  refine L_gf (pc' := 82) rfl fr_33_7 rfl ?_
  refine L_cv (pc' := 85) (as := [.ref 87, .ref 40]) (rest := []) rfl rfl (e_x_copyInts_c134 (by omega) _) rfl fun g8 => ?_
  exact L_ret rfl rfl rfl
def x_copyFlags_c12  (g : Sg) : Option (Sg) :=
  lt1 (cp2 g 88 0 41 0 (Int32.toNatClampNeg 100)) (fun g1 => (some g1))
theorem e_x_copyFlags_c12 {X : Xx} {d : Nat} (hd : 1 ≤ d)  (g : Sg) : ∀ r, x_copyFlags_c12  g = some r → EvM zft mtl X d 147 [.ref 88, .ref 41] (SHF, g) ((fun r : Sg => ((none, (SHF, r)) : Out)) r) := by
  obtain ⟨d, rfl⟩ : ∃ d0, d = d0 + 1 := ⟨d - 1, by omega⟩
  have hd : 0 ≤ d := by omega
  refine E_in (f := (fun r : Sg => ((none, (SHF, r)) : Out))) rfl (Nat.le_of_ble_eq_true rfl) ?_
  unfold x_copyFlags_c12
  change Lt X d none k_147 _ 0 [some (.ref 88), some (.ref 41)] [] g _
  refine L_s (pc' := 1) rfl rfl ?_
  refine L_ic (pc' := 2) rfl q1_0 rfl ?_
  refine L_s (pc' := 3) rfl rfl ?_
  refine L_ic (pc' := 4) rfl q1_0 rfl ?_
  refine L_s (pc' := 5) rfl rfl ?_
  refine L_s (pc' := 6) (st' := [.int 100, .int 0, .ref 41, .int 0, .ref 88]) rfl rfl ?_
  refine L_s (pc' := 7) rfl rfl ?_
  refine L_s (pc' := 8) (st' := [.int 100, .int 100, .int 0, .ref 41, .int 0, .ref 88]) rfl rfl ?_
  refine L_s (pc' := 11) rfl rfl ?_
  refine L_e (b := 100) (by decide) ?_
  refine L_cp (pc' := 14) rfl sh_88 sh_41 (by decide) (by decide) (by decide) (by decide) rfl rfl ?_
  refine L_let fun g1 _ => ?_
  exact L_ret rfl rfl rfl
def law_copyFrom_c3  (g : Sg) : Option (Sg) :=
  lt1 (up2 g 31 0 (g 78 0)) (fun g1 => Option.bind (x_copyBytes_c7 g1) (fun g2 => lt1 (up2 g2 31 2 (g2 78 2)) (fun g3 => lt1 (up2 g3 31 3 (g3 78 3)) (fun g4 => Option.bind (lines_copyFrom_c4 g4) (fun g5 => Option.bind (x_copyFlags_c12 g5) (fun g6 => (some g6)))))))
theorem e_law_copyFrom_c3 {X : Xx} {d : Nat} (hd : 3 ≤ d)  (g : Sg) : ∀ r, law_copyFrom_c3  g = some r → EvM zft mtl X d 18 [.ref 31, .ref 78] (SHF, g) ((fun r : Sg => ((none, (SHF, r)) : Out)) r) := by
  obtain ⟨d, rfl⟩ : ∃ d0, d = d0 + 1 := ⟨d - 1, by omega⟩
  have hd : 2 ≤ d := by omega
  refine E_in (f := (fun r : Sg => ((none, (SHF, r)) : Out))) rfl (Nat.le_of_ble_eq_true rfl) ?_
  unfold law_copyFrom_c3
  change Lt X d none k_18 _ 0 [some (.ref 31), some (.ref 78)] [] g _
  refine L_s (pc' := 1) rfl rfl ?_
  refine L_s (pc' := 2) rfl rfl ?_
  refine L_gf (pc' := 5) rfl fi_78_0 rfl ?_
  refine L_pf (pc' := 8) rfl sh_31 (by decide) rfl rfl ?_
  refine L_let fun g1 _ => ?_
  refine L_s (pc' := 9) rfl rfl ?_
  refine L_gf (pc' := 12) rfl fr_78_1 rfl ?_
  refine L_s (pc' := 13) rfl rfl ?_
  refine L_gf (pc' := 16) rfl fr_31_1 rfl ?_
  refine L_cv (pc' := 19) (as := [.ref 79, .ref 32]) (rest := []) rfl rfl (e_x_copyBytes_c7 (by omega) _) rfl fun g2 => ?_
  refine L_s (pc' := 20) rfl rfl ?_
  refine L_s (pc' := 21) rfl rfl ?_
  refine L_gf (pc' := 24) rfl fi_78_2 rfl ?_
  refine L_pf (pc' := 27) rfl sh_31 (by decide) rfl rfl ?_
  refine L_let fun g3 _ => ?_
  refine L_s (pc' := 28) rfl rfl ?_
  refine L_s (pc' := 29) rfl rfl ?_
  refine L_gf (pc' := 32) rfl fi_78_3 rfl ?_
  refine L_pf (pc' := 35) rfl sh_31 (by decide) rfl rfl ?_
  refine L_let fun g4 _ => ?_
  refine L_s (pc' := 36) rfl rfl ?_
  refine L_gf (pc' := 39) rfl fr_31_4 rfl ?_
  refine L_s (pc' := 40) rfl rfl ?_
  refine L_gf (pc' := 43) rfl fr_78_4 rfl ?_
  refine L_cv (pc' := 46) (as := [.ref 33, .ref 80]) (rest := []) rfl rfl (e_lines_copyFrom_c4 (by omega) _) rfl fun g5 => ?_
  refine L_s (pc' := 47) rfl rfl ?_
  refine L_gf (pc' := 50) rfl fr_78_5 rfl ?_
  refine L_s (pc' := 51) rfl rfl ?_
  refine L_gf (pc' := 54) rfl fr_31_5 rfl ?_
  refine L_cv (pc' := 57) (as := [.ref 88, .ref 41]) (rest := []) rfl rfl (e_x_copyFlags_c12 (by omega) _) rfl fun g6 => ?_
  exact L_ret rfl rfl rfl
def x_copyInts_c135  (g : Sg) : Option (Sg) :=
  lt1 (cp2 g 90 0 43 0 (Int32.toNatClampNeg 150)) (fun g1 => (some g1))
theorem e_x_copyInts_c135 {X : Xx} {d : Nat} (hd : 1 ≤ d)  (g : Sg) : ∀ r, x_copyInts_c135  g = some r → EvM zft mtl X d 145 [.ref 90, .ref 43] (SHF, g) ((fun r : Sg => ((none, (SHF, r)) : Out)) r) := by
  obtain ⟨d, rfl⟩ : ∃ d0, d = d0 + 1 := ⟨d - 1, by omega⟩
  have hd : 0 ≤ d := by omega
  refine E_in (f := (fun r : Sg => ((none, (SHF, r)) : Out))) rfl (Nat.le_of_ble_eq_true rfl) ?_
  unfold x_copyInts_c135
  change Lt X d none k_145 _ 0 [some (.ref 90), some (.ref 43)] [] g _
  refine L_s (pc' := 1) rfl rfl ?_
  refine L_ic (pc' := 2) rfl q1_0 rfl ?_
  refine L_s (pc' := 3) rfl rfl ?_
  refine L_ic (pc' := 4) rfl q1_0 rfl ?_
  refine L_s (pc' := 5) rfl rfl ?_
  refine L_s (pc' := 6) (st' := [.int 150, .int 0, .ref 43, .int 0, .ref 90]) rfl rfl ?_
  refine L_s (pc' := 7) rfl rfl ?_
  refine L_s (pc' := 8) (st' := [.int 150, .int 150, .int 0, .ref 43, .int 0, .ref 90]) rfl rfl ?_
  refine L_s (pc' := 11) rfl rfl ?_
  refine L_e (b := 150) (by decide) ?_
  refine L_cp (pc' := 14) rfl sh_90 sh_43 (by decide) (by decide) (by decide) (by decide) rfl rfl ?_
  refine L_let fun g1 _ => ?_
  exact L_ret rfl rfl rfl
def x_copyInts_c136  (g : Sg) : Option (Sg) :=
  lt1 (cp2 g 91 0 44 0 (Int32.toNatClampNeg 150)) (fun g1 => (some g1))
theorem e_x_copyInts_c136 {X : Xx} {d : Nat} (hd : 1 ≤ d)  (g : Sg) : ∀ r, x_copyInts_c136  g = some r → EvM zft mtl X d 145 [.ref 91, .ref 44] (SHF, g) ((fun r : Sg => ((none, (SHF, r)) : Out)) r) := by
  obtain ⟨d, rfl⟩ : ∃ d0, d = d0 + 1 := ⟨d - 1, by omega⟩
  have hd : 0 ≤ d := by omega
  refine E_in (f := (fun r : Sg => ((none, (SHF, r)) : Out))) rfl (Nat.le_of_ble_eq_true rfl) ?_
  unfold x_copyInts_c136
  change Lt X d none k_145 _ 0 [some (.ref 91), some (.ref 44)] [] g _
  refine L_s (pc' := 1) rfl rfl ?_
  refine L_ic (pc' := 2) rfl q1_0 rfl ?_
  refine L_s (pc' := 3) rfl rfl ?_
  refine L_ic (pc' := 4) rfl q1_0 rfl ?_
  refine L_s (pc' := 5) rfl rfl ?_
  refine L_s (pc' := 6) (st' := [.int 150, .int 0, .ref 44, .int 0, .ref 91]) rfl rfl ?_
  refine L_s (pc' := 7) rfl rfl ?_
  refine L_s (pc' := 8) (st' := [.int 150, .int 150, .int 0, .ref 44, .int 0, .ref 91]) rfl rfl ?_
  refine L_s (pc' := 11) rfl rfl ?_
  refine L_e (b := 150) (by decide) ?_
  refine L_cp (pc' := 14) rfl sh_91 sh_44 (by decide) (by decide) (by decide) (by decide) rfl rfl ?_
  refine L_let fun g1 _ => ?_
  exact L_ret rfl rfl rfl
def x_copyInts_c137  (g : Sg) : Option (Sg) :=
  lt1 (cp2 g 92 0 45 0 (Int32.toNatClampNeg 150)) (fun g1 => (some g1))
theorem e_x_copyInts_c137 {X : Xx} {d : Nat} (hd : 1 ≤ d)  (g : Sg) : ∀ r, x_copyInts_c137  g = some r → EvM zft mtl X d 145 [.ref 92, .ref 45] (SHF, g) ((fun r : Sg => ((none, (SHF, r)) : Out)) r) := by
  obtain ⟨d, rfl⟩ : ∃ d0, d = d0 + 1 := ⟨d - 1, by omega⟩
  have hd : 0 ≤ d := by omega
  refine E_in (f := (fun r : Sg => ((none, (SHF, r)) : Out))) rfl (Nat.le_of_ble_eq_true rfl) ?_
  unfold x_copyInts_c137
  change Lt X d none k_145 _ 0 [some (.ref 92), some (.ref 45)] [] g _
  refine L_s (pc' := 1) rfl rfl ?_
  refine L_ic (pc' := 2) rfl q1_0 rfl ?_
  refine L_s (pc' := 3) rfl rfl ?_
  refine L_ic (pc' := 4) rfl q1_0 rfl ?_
  refine L_s (pc' := 5) rfl rfl ?_
  refine L_s (pc' := 6) (st' := [.int 150, .int 0, .ref 45, .int 0, .ref 92]) rfl rfl ?_
  refine L_s (pc' := 7) rfl rfl ?_
  refine L_s (pc' := 8) (st' := [.int 150, .int 150, .int 0, .ref 45, .int 0, .ref 92]) rfl rfl ?_
  refine L_s (pc' := 11) rfl rfl ?_
  refine L_e (b := 150) (by decide) ?_
  refine L_cp (pc' := 14) rfl sh_92 sh_45 (by decide) (by decide) (by decide) (by decide) rfl rfl ?_
  refine L_let fun g1 _ => ?_
  exact L_ret rfl rfl rfl
def x_copyInts_c138  (g : Sg) : Option (Sg) :=
  lt1 (cp2 g 93 0 46 0 (Int32.toNatClampNeg 150)) (fun g1 => (some g1))
theorem e_x_copyInts_c138 {X : Xx} {d : Nat} (hd : 1 ≤ d)  (g : Sg) : ∀ r, x_copyInts_c138  g = some r → EvM zft mtl X d 145 [.ref 93, .ref 46] (SHF, g) ((fun r : Sg => ((none, (SHF, r)) : Out)) r) := by
  obtain ⟨d, rfl⟩ : ∃ d0, d = d0 + 1 := ⟨d - 1, by omega⟩
  have hd : 0 ≤ d := by omega
  refine E_in (f := (fun r : Sg => ((none, (SHF, r)) : Out))) rfl (Nat.le_of_ble_eq_true rfl) ?_
  unfold x_copyInts_c138
  change Lt X d none k_145 _ 0 [some (.ref 93), some (.ref 46)] [] g _
  refine L_s (pc' := 1) rfl rfl ?_
  refine L_ic (pc' := 2) rfl q1_0 rfl ?_
  refine L_s (pc' := 3) rfl rfl ?_
  refine L_ic (pc' := 4) rfl q1_0 rfl ?_
  refine L_s (pc' := 5) rfl rfl ?_
  refine L_s (pc' := 6) (st' := [.int 150, .int 0, .ref 46, .int 0, .ref 93]) rfl rfl ?_
  refine L_s (pc' := 7) rfl rfl ?_
  refine L_s (pc' := 8) (st' := [.int 150, .int 150, .int 0, .ref 46, .int 0, .ref 93]) rfl rfl ?_
  refine L_s (pc' := 11) rfl rfl ?_
  refine L_e (b := 150) (by decide) ?_
  refine L_cp (pc' := 14) rfl sh_93 sh_46 (by decide) (by decide) (by decide) (by decide) rfl rfl ?_
  refine L_let fun g1 _ => ?_
  exact L_ret rfl rfl rfl
def gauges_copyFrom_c3  (g : Sg) : Option (Sg) :=
  lt1 (up2 g 42 0 (g 89 0)) (fun g1 => Option.bind (x_copyInts_c135 g1) (fun g2 => Option.bind (x_copyInts_c136 g2) (fun g3 => Option.bind (x_copyInts_c137 g3) (fun g4 => Option.bind (x_copyInts_c138 g4) (fun g5 => (some g5))))))
theorem e_gauges_copyFrom_c3 {X : Xx} {d : Nat} (hd : 2 ≤ d)  (g : Sg) : ∀ r, gauges_copyFrom_c3  g = some r → EvM zft mtl X d 13 [.ref 42, .ref 89] (SHF, g) ((fun r : Sg => ((none, (SHF, r)) : Out)) r) := by
  obtain ⟨d, rfl⟩ : ∃ d0, d = d0 + 1 := ⟨d - 1, by omega⟩
  have hd : 1 ≤ d := by omega
  refine E_in (f := (fun r : Sg => ((none, (SHF, r)) : Out))) rfl (Nat.le_of_ble_eq_true rfl) ?_
  unfold gauges_copyFrom_c3
  change Lt X d none k_13 _ 0 [some (.ref 42), some (.ref 89)] [] g _
  refine L_s (pc' := 1) rfl rfl ?_
  refine L_s (pc' := 2) rfl rfl ?_
  refine L_gf (pc' := 5) rfl fi_89_0 rfl ?_
  refine L_pf (pc' := 8) rfl sh_42 (by decide) rfl rfl ?_
  refine L_let fun g1 _ => ?_
  refine L_s (pc' := 9) rfl rfl ?_
  refine L_gf (pc' := 12) rfl fr_89_1 rfl ?_
  refine L_s (pc' := 13) rfl rfl ?_
  refine L_gf (pc' := 16) rfl fr_42_1 rfl ?_
  refine L_cv (pc' := 19) (as := [.ref 90, .ref 43]) (rest := []) rfl rfl (e_x_copyInts_c135 (by omega) _) rfl fun g2 => ?_
  refine L_s (pc' := 20) rfl rfl ?_
  refine L_gf (pc' := 23) rfl fr_89_2 rfl ?_
  refine L_s (pc' := 24) rfl rfl ?_
  refine L_gf (pc' := 27) rfl fr_42_2 rfl ?_
  refine L_cv (pc' := 30) (as := [.ref 91, .ref 44]) (rest := []) rfl rfl (e_x_copyInts_c136 (by omega) _) rfl fun g3 => ?_
  refine L_s (pc' := 31) rfl rfl ?_
  refine L_gf (pc' := 34) rfl fr_89_3 rfl ?_
  refine L_s (pc' := 35) rfl rfl ?_
  refine L_gf (pc' := 38) rfl fr_42_3 rfl ?_
  refine L_cv (pc' := 41) (as := [.ref 92, .ref 45]) (rest := []) rfl rfl (e_x_copyInts_c137 (by omega) _) rfl fun g4 => ?_
  refine L_s (pc' := 42) rfl rfl ?_
  refine L_gf (pc' := 45) rfl fr_89_4 rfl ?_
  refine L_s (pc' := 46) rfl rfl ?_
  refine L_gf (pc' := 49) rfl fr_42_4 rfl ?_
  refine L_cv (pc' := 52) (as := [.ref 93, .ref 46]) (rest := []) rfl rfl (e_x_copyInts_c138 (by omega) _) rfl fun g5 => ?_
  exact L_ret rfl rfl rfl
def told_copyFrom_c3  (g : Sg) : Option (Sg) :=
  Option.bind (net_copyFrom_c3 g) (fun g1 => Option.bind (rights_copyFrom_c3 g1) (fun g2 => Option.bind (law_copyFrom_c3 g2) (fun g3 => Option.bind (gauges_copyFrom_c3 g3) (fun g4 => (some g4)))))
theorem e_told_copyFrom_c3 {X : Xx} {d : Nat} (hd : 4 ≤ d)  (g : Sg) : ∀ r, told_copyFrom_c3  g = some r → EvM zft mtl X d 88 [.ref 1, .ref 48] (SHF, g) ((fun r : Sg => ((none, (SHF, r)) : Out)) r) := by
  obtain ⟨d, rfl⟩ : ∃ d0, d = d0 + 1 := ⟨d - 1, by omega⟩
  have hd : 3 ≤ d := by omega
  refine E_in (f := (fun r : Sg => ((none, (SHF, r)) : Out))) rfl (Nat.le_of_ble_eq_true rfl) ?_
  unfold told_copyFrom_c3
  change Lt X d none k_88 _ 0 [some (.ref 1), some (.ref 48)] [] g _
  refine L_s (pc' := 1) rfl rfl ?_
  refine L_gf (pc' := 4) rfl fr_1_0 rfl ?_
  refine L_s (pc' := 5) rfl rfl ?_
  refine L_gf (pc' := 8) rfl fr_48_0 rfl ?_
  refine L_cv (pc' := 11) (as := [.ref 2, .ref 49]) (rest := []) rfl rfl (e_net_copyFrom_c3 (by omega) _) rfl fun g1 => ?_
  refine L_s (pc' := 12) rfl rfl ?_
  refine L_gf (pc' := 15) rfl fr_1_1 rfl ?_
  refine L_s (pc' := 16) rfl rfl ?_
  refine L_gf (pc' := 19) rfl fr_48_1 rfl ?_
  refine L_cv (pc' := 22) (as := [.ref 22, .ref 69]) (rest := []) rfl rfl (e_rights_copyFrom_c3 (by omega) _) rfl fun g2 => ?_
  refine L_s (pc' := 23) rfl rfl ?_
  refine L_gf (pc' := 26) rfl fr_1_2 rfl ?_
  refine L_s (pc' := 27) rfl rfl ?_
  refine L_gf (pc' := 30) rfl fr_48_2 rfl ?_
  refine L_cv (pc' := 33) (as := [.ref 31, .ref 78]) (rest := []) rfl rfl (e_law_copyFrom_c3 (by omega) _) rfl fun g3 => ?_
  refine L_s (pc' := 34) rfl rfl ?_
  refine L_gf (pc' := 37) rfl fr_1_3 rfl ?_
  refine L_s (pc' := 38) rfl rfl ?_
  refine L_gf (pc' := 41) rfl fr_48_3 rfl ?_
  refine L_cv (pc' := 44) (as := [.ref 42, .ref 89]) (rest := []) rfl rfl (e_gauges_copyFrom_c3 (by omega) _) rfl fun g4 => ?_
  exact L_ret rfl rfl rfl
def x_copyInts_c139  (g : Sg) : Option (Sg) :=
  lt1 (cp2 g 96 0 3 0 (Int32.toNatClampNeg 10)) (fun g1 => (some g1))
theorem e_x_copyInts_c139 {X : Xx} {d : Nat} (hd : 1 ≤ d)  (g : Sg) : ∀ r, x_copyInts_c139  g = some r → EvM zft mtl X d 145 [.ref 96, .ref 3] (SHF, g) ((fun r : Sg => ((none, (SHF, r)) : Out)) r) := by
  obtain ⟨d, rfl⟩ : ∃ d0, d = d0 + 1 := ⟨d - 1, by omega⟩
  have hd : 0 ≤ d := by omega
  refine E_in (f := (fun r : Sg => ((none, (SHF, r)) : Out))) rfl (Nat.le_of_ble_eq_true rfl) ?_
  unfold x_copyInts_c139
  change Lt X d none k_145 _ 0 [some (.ref 96), some (.ref 3)] [] g _
  refine L_s (pc' := 1) rfl rfl ?_
  refine L_ic (pc' := 2) rfl q1_0 rfl ?_
  refine L_s (pc' := 3) rfl rfl ?_
  refine L_ic (pc' := 4) rfl q1_0 rfl ?_
  refine L_s (pc' := 5) rfl rfl ?_
  refine L_s (pc' := 6) (st' := [.int 10, .int 0, .ref 3, .int 0, .ref 96]) rfl rfl ?_
  refine L_s (pc' := 7) rfl rfl ?_
  refine L_s (pc' := 8) (st' := [.int 10, .int 10, .int 0, .ref 3, .int 0, .ref 96]) rfl rfl ?_
  refine L_s (pc' := 11) rfl rfl ?_
  refine L_e (b := 10) (by decide) ?_
  refine L_cp (pc' := 14) rfl sh_96 sh_3 (by decide) (by decide) (by decide) (by decide) rfl rfl ?_
  refine L_let fun g1 _ => ?_
  exact L_ret rfl rfl rfl
def x_copyInts_c140  (g : Sg) : Option (Sg) :=
  lt1 (cp2 g 97 0 4 0 (Int32.toNatClampNeg 10)) (fun g1 => (some g1))
theorem e_x_copyInts_c140 {X : Xx} {d : Nat} (hd : 1 ≤ d)  (g : Sg) : ∀ r, x_copyInts_c140  g = some r → EvM zft mtl X d 145 [.ref 97, .ref 4] (SHF, g) ((fun r : Sg => ((none, (SHF, r)) : Out)) r) := by
  obtain ⟨d, rfl⟩ : ∃ d0, d = d0 + 1 := ⟨d - 1, by omega⟩
  have hd : 0 ≤ d := by omega
  refine E_in (f := (fun r : Sg => ((none, (SHF, r)) : Out))) rfl (Nat.le_of_ble_eq_true rfl) ?_
  unfold x_copyInts_c140
  change Lt X d none k_145 _ 0 [some (.ref 97), some (.ref 4)] [] g _
  refine L_s (pc' := 1) rfl rfl ?_
  refine L_ic (pc' := 2) rfl q1_0 rfl ?_
  refine L_s (pc' := 3) rfl rfl ?_
  refine L_ic (pc' := 4) rfl q1_0 rfl ?_
  refine L_s (pc' := 5) rfl rfl ?_
  refine L_s (pc' := 6) (st' := [.int 10, .int 0, .ref 4, .int 0, .ref 97]) rfl rfl ?_
  refine L_s (pc' := 7) rfl rfl ?_
  refine L_s (pc' := 8) (st' := [.int 10, .int 10, .int 0, .ref 4, .int 0, .ref 97]) rfl rfl ?_
  refine L_s (pc' := 11) rfl rfl ?_
  refine L_e (b := 10) (by decide) ?_
  refine L_cp (pc' := 14) rfl sh_97 sh_4 (by decide) (by decide) (by decide) (by decide) rfl rfl ?_
  refine L_let fun g1 _ => ?_
  exact L_ret rfl rfl rfl
def x_copyInts_c141  (g : Sg) : Option (Sg) :=
  lt1 (cp2 g 98 0 5 0 (Int32.toNatClampNeg 10)) (fun g1 => (some g1))
theorem e_x_copyInts_c141 {X : Xx} {d : Nat} (hd : 1 ≤ d)  (g : Sg) : ∀ r, x_copyInts_c141  g = some r → EvM zft mtl X d 145 [.ref 98, .ref 5] (SHF, g) ((fun r : Sg => ((none, (SHF, r)) : Out)) r) := by
  obtain ⟨d, rfl⟩ : ∃ d0, d = d0 + 1 := ⟨d - 1, by omega⟩
  have hd : 0 ≤ d := by omega
  refine E_in (f := (fun r : Sg => ((none, (SHF, r)) : Out))) rfl (Nat.le_of_ble_eq_true rfl) ?_
  unfold x_copyInts_c141
  change Lt X d none k_145 _ 0 [some (.ref 98), some (.ref 5)] [] g _
  refine L_s (pc' := 1) rfl rfl ?_
  refine L_ic (pc' := 2) rfl q1_0 rfl ?_
  refine L_s (pc' := 3) rfl rfl ?_
  refine L_ic (pc' := 4) rfl q1_0 rfl ?_
  refine L_s (pc' := 5) rfl rfl ?_
  refine L_s (pc' := 6) (st' := [.int 10, .int 0, .ref 5, .int 0, .ref 98]) rfl rfl ?_
  refine L_s (pc' := 7) rfl rfl ?_
  refine L_s (pc' := 8) (st' := [.int 10, .int 10, .int 0, .ref 5, .int 0, .ref 98]) rfl rfl ?_
  refine L_s (pc' := 11) rfl rfl ?_
  refine L_e (b := 10) (by decide) ?_
  refine L_cp (pc' := 14) rfl sh_98 sh_5 (by decide) (by decide) (by decide) (by decide) rfl rfl ?_
  refine L_let fun g1 _ => ?_
  exact L_ret rfl rfl rfl
def x_copyInts_c142  (g : Sg) : Option (Sg) :=
  lt1 (cp2 g 102 0 9 0 (Int32.toNatClampNeg 14)) (fun g1 => (some g1))
theorem e_x_copyInts_c142 {X : Xx} {d : Nat} (hd : 1 ≤ d)  (g : Sg) : ∀ r, x_copyInts_c142  g = some r → EvM zft mtl X d 145 [.ref 102, .ref 9] (SHF, g) ((fun r : Sg => ((none, (SHF, r)) : Out)) r) := by
  obtain ⟨d, rfl⟩ : ∃ d0, d = d0 + 1 := ⟨d - 1, by omega⟩
  have hd : 0 ≤ d := by omega
  refine E_in (f := (fun r : Sg => ((none, (SHF, r)) : Out))) rfl (Nat.le_of_ble_eq_true rfl) ?_
  unfold x_copyInts_c142
  change Lt X d none k_145 _ 0 [some (.ref 102), some (.ref 9)] [] g _
  refine L_s (pc' := 1) rfl rfl ?_
  refine L_ic (pc' := 2) rfl q1_0 rfl ?_
  refine L_s (pc' := 3) rfl rfl ?_
  refine L_ic (pc' := 4) rfl q1_0 rfl ?_
  refine L_s (pc' := 5) rfl rfl ?_
  refine L_s (pc' := 6) (st' := [.int 14, .int 0, .ref 9, .int 0, .ref 102]) rfl rfl ?_
  refine L_s (pc' := 7) rfl rfl ?_
  refine L_s (pc' := 8) (st' := [.int 14, .int 14, .int 0, .ref 9, .int 0, .ref 102]) rfl rfl ?_
  refine L_s (pc' := 11) rfl rfl ?_
  refine L_e (b := 14) (by decide) ?_
  refine L_cp (pc' := 14) rfl sh_102 sh_9 (by decide) (by decide) (by decide) (by decide) rfl rfl ?_
  refine L_let fun g1 _ => ?_
  exact L_ret rfl rfl rfl
def x_copyInts_c143  (g : Sg) : Option (Sg) :=
  lt1 (cp2 g 103 0 10 0 (Int32.toNatClampNeg 14)) (fun g1 => (some g1))
theorem e_x_copyInts_c143 {X : Xx} {d : Nat} (hd : 1 ≤ d)  (g : Sg) : ∀ r, x_copyInts_c143  g = some r → EvM zft mtl X d 145 [.ref 103, .ref 10] (SHF, g) ((fun r : Sg => ((none, (SHF, r)) : Out)) r) := by
  obtain ⟨d, rfl⟩ : ∃ d0, d = d0 + 1 := ⟨d - 1, by omega⟩
  have hd : 0 ≤ d := by omega
  refine E_in (f := (fun r : Sg => ((none, (SHF, r)) : Out))) rfl (Nat.le_of_ble_eq_true rfl) ?_
  unfold x_copyInts_c143
  change Lt X d none k_145 _ 0 [some (.ref 103), some (.ref 10)] [] g _
  refine L_s (pc' := 1) rfl rfl ?_
  refine L_ic (pc' := 2) rfl q1_0 rfl ?_
  refine L_s (pc' := 3) rfl rfl ?_
  refine L_ic (pc' := 4) rfl q1_0 rfl ?_
  refine L_s (pc' := 5) rfl rfl ?_
  refine L_s (pc' := 6) (st' := [.int 14, .int 0, .ref 10, .int 0, .ref 103]) rfl rfl ?_
  refine L_s (pc' := 7) rfl rfl ?_
  refine L_s (pc' := 8) (st' := [.int 14, .int 14, .int 0, .ref 10, .int 0, .ref 103]) rfl rfl ?_
  refine L_s (pc' := 11) rfl rfl ?_
  refine L_e (b := 14) (by decide) ?_
  refine L_cp (pc' := 14) rfl sh_103 sh_10 (by decide) (by decide) (by decide) (by decide) rfl rfl ?_
  refine L_let fun g1 _ => ?_
  exact L_ret rfl rfl rfl
def x_copyInts_c144  (g : Sg) : Option (Sg) :=
  lt1 (cp2 g 104 0 11 0 (Int32.toNatClampNeg 14)) (fun g1 => (some g1))
theorem e_x_copyInts_c144 {X : Xx} {d : Nat} (hd : 1 ≤ d)  (g : Sg) : ∀ r, x_copyInts_c144  g = some r → EvM zft mtl X d 145 [.ref 104, .ref 11] (SHF, g) ((fun r : Sg => ((none, (SHF, r)) : Out)) r) := by
  obtain ⟨d, rfl⟩ : ∃ d0, d = d0 + 1 := ⟨d - 1, by omega⟩
  have hd : 0 ≤ d := by omega
  refine E_in (f := (fun r : Sg => ((none, (SHF, r)) : Out))) rfl (Nat.le_of_ble_eq_true rfl) ?_
  unfold x_copyInts_c144
  change Lt X d none k_145 _ 0 [some (.ref 104), some (.ref 11)] [] g _
  refine L_s (pc' := 1) rfl rfl ?_
  refine L_ic (pc' := 2) rfl q1_0 rfl ?_
  refine L_s (pc' := 3) rfl rfl ?_
  refine L_ic (pc' := 4) rfl q1_0 rfl ?_
  refine L_s (pc' := 5) rfl rfl ?_
  refine L_s (pc' := 6) (st' := [.int 14, .int 0, .ref 11, .int 0, .ref 104]) rfl rfl ?_
  refine L_s (pc' := 7) rfl rfl ?_
  refine L_s (pc' := 8) (st' := [.int 14, .int 14, .int 0, .ref 11, .int 0, .ref 104]) rfl rfl ?_
  refine L_s (pc' := 11) rfl rfl ?_
  refine L_e (b := 14) (by decide) ?_
  refine L_cp (pc' := 14) rfl sh_104 sh_11 (by decide) (by decide) (by decide) (by decide) rfl rfl ?_
  refine L_let fun g1 _ => ?_
  exact L_ret rfl rfl rfl
def x_copyInts_c145  (g : Sg) : Option (Sg) :=
  lt1 (cp2 g 105 0 12 0 (Int32.toNatClampNeg 14)) (fun g1 => (some g1))
theorem e_x_copyInts_c145 {X : Xx} {d : Nat} (hd : 1 ≤ d)  (g : Sg) : ∀ r, x_copyInts_c145  g = some r → EvM zft mtl X d 145 [.ref 105, .ref 12] (SHF, g) ((fun r : Sg => ((none, (SHF, r)) : Out)) r) := by
  obtain ⟨d, rfl⟩ : ∃ d0, d = d0 + 1 := ⟨d - 1, by omega⟩
  have hd : 0 ≤ d := by omega
  refine E_in (f := (fun r : Sg => ((none, (SHF, r)) : Out))) rfl (Nat.le_of_ble_eq_true rfl) ?_
  unfold x_copyInts_c145
  change Lt X d none k_145 _ 0 [some (.ref 105), some (.ref 12)] [] g _
  refine L_s (pc' := 1) rfl rfl ?_
  refine L_ic (pc' := 2) rfl q1_0 rfl ?_
  refine L_s (pc' := 3) rfl rfl ?_
  refine L_ic (pc' := 4) rfl q1_0 rfl ?_
  refine L_s (pc' := 5) rfl rfl ?_
  refine L_s (pc' := 6) (st' := [.int 14, .int 0, .ref 12, .int 0, .ref 105]) rfl rfl ?_
  refine L_s (pc' := 7) rfl rfl ?_
  refine L_s (pc' := 8) (st' := [.int 14, .int 14, .int 0, .ref 12, .int 0, .ref 105]) rfl rfl ?_
  refine L_s (pc' := 11) rfl rfl ?_
  refine L_e (b := 14) (by decide) ?_
  refine L_cp (pc' := 14) rfl sh_105 sh_12 (by decide) (by decide) (by decide) (by decide) rfl rfl ?_
  refine L_let fun g1 _ => ?_
  exact L_ret rfl rfl rfl
def x_copyInts_c146  (g : Sg) : Option (Sg) :=
  lt1 (cp2 g 106 0 13 0 (Int32.toNatClampNeg 14)) (fun g1 => (some g1))
theorem e_x_copyInts_c146 {X : Xx} {d : Nat} (hd : 1 ≤ d)  (g : Sg) : ∀ r, x_copyInts_c146  g = some r → EvM zft mtl X d 145 [.ref 106, .ref 13] (SHF, g) ((fun r : Sg => ((none, (SHF, r)) : Out)) r) := by
  obtain ⟨d, rfl⟩ : ∃ d0, d = d0 + 1 := ⟨d - 1, by omega⟩
  have hd : 0 ≤ d := by omega
  refine E_in (f := (fun r : Sg => ((none, (SHF, r)) : Out))) rfl (Nat.le_of_ble_eq_true rfl) ?_
  unfold x_copyInts_c146
  change Lt X d none k_145 _ 0 [some (.ref 106), some (.ref 13)] [] g _
  refine L_s (pc' := 1) rfl rfl ?_
  refine L_ic (pc' := 2) rfl q1_0 rfl ?_
  refine L_s (pc' := 3) rfl rfl ?_
  refine L_ic (pc' := 4) rfl q1_0 rfl ?_
  refine L_s (pc' := 5) rfl rfl ?_
  refine L_s (pc' := 6) (st' := [.int 14, .int 0, .ref 13, .int 0, .ref 106]) rfl rfl ?_
  refine L_s (pc' := 7) rfl rfl ?_
  refine L_s (pc' := 8) (st' := [.int 14, .int 14, .int 0, .ref 13, .int 0, .ref 106]) rfl rfl ?_
  refine L_s (pc' := 11) rfl rfl ?_
  refine L_e (b := 14) (by decide) ?_
  refine L_cp (pc' := 14) rfl sh_106 sh_13 (by decide) (by decide) (by decide) (by decide) rfl rfl ?_
  refine L_let fun g1 _ => ?_
  exact L_ret rfl rfl rfl
def x_copyInts_c147  (g : Sg) : Option (Sg) :=
  lt1 (cp2 g 107 0 14 0 (Int32.toNatClampNeg 14)) (fun g1 => (some g1))
theorem e_x_copyInts_c147 {X : Xx} {d : Nat} (hd : 1 ≤ d)  (g : Sg) : ∀ r, x_copyInts_c147  g = some r → EvM zft mtl X d 145 [.ref 107, .ref 14] (SHF, g) ((fun r : Sg => ((none, (SHF, r)) : Out)) r) := by
  obtain ⟨d, rfl⟩ : ∃ d0, d = d0 + 1 := ⟨d - 1, by omega⟩
  have hd : 0 ≤ d := by omega
  refine E_in (f := (fun r : Sg => ((none, (SHF, r)) : Out))) rfl (Nat.le_of_ble_eq_true rfl) ?_
  unfold x_copyInts_c147
  change Lt X d none k_145 _ 0 [some (.ref 107), some (.ref 14)] [] g _
  refine L_s (pc' := 1) rfl rfl ?_
  refine L_ic (pc' := 2) rfl q1_0 rfl ?_
  refine L_s (pc' := 3) rfl rfl ?_
  refine L_ic (pc' := 4) rfl q1_0 rfl ?_
  refine L_s (pc' := 5) rfl rfl ?_
  refine L_s (pc' := 6) (st' := [.int 14, .int 0, .ref 14, .int 0, .ref 107]) rfl rfl ?_
  refine L_s (pc' := 7) rfl rfl ?_
  refine L_s (pc' := 8) (st' := [.int 14, .int 14, .int 0, .ref 14, .int 0, .ref 107]) rfl rfl ?_
  refine L_s (pc' := 11) rfl rfl ?_
  refine L_e (b := 14) (by decide) ?_
  refine L_cp (pc' := 14) rfl sh_107 sh_14 (by decide) (by decide) (by decide) (by decide) rfl rfl ?_
  refine L_let fun g1 _ => ?_
  exact L_ret rfl rfl rfl
def x_copyFlags_c13  (g : Sg) : Option (Sg) :=
  lt1 (cp2 g 108 0 15 0 (Int32.toNatClampNeg 14)) (fun g1 => (some g1))
theorem e_x_copyFlags_c13 {X : Xx} {d : Nat} (hd : 1 ≤ d)  (g : Sg) : ∀ r, x_copyFlags_c13  g = some r → EvM zft mtl X d 147 [.ref 108, .ref 15] (SHF, g) ((fun r : Sg => ((none, (SHF, r)) : Out)) r) := by
  obtain ⟨d, rfl⟩ : ∃ d0, d = d0 + 1 := ⟨d - 1, by omega⟩
  have hd : 0 ≤ d := by omega
  refine E_in (f := (fun r : Sg => ((none, (SHF, r)) : Out))) rfl (Nat.le_of_ble_eq_true rfl) ?_
  unfold x_copyFlags_c13
  change Lt X d none k_147 _ 0 [some (.ref 108), some (.ref 15)] [] g _
  refine L_s (pc' := 1) rfl rfl ?_
  refine L_ic (pc' := 2) rfl q1_0 rfl ?_
  refine L_s (pc' := 3) rfl rfl ?_
  refine L_ic (pc' := 4) rfl q1_0 rfl ?_
  refine L_s (pc' := 5) rfl rfl ?_
  refine L_s (pc' := 6) (st' := [.int 14, .int 0, .ref 15, .int 0, .ref 108]) rfl rfl ?_
  refine L_s (pc' := 7) rfl rfl ?_
  refine L_s (pc' := 8) (st' := [.int 14, .int 14, .int 0, .ref 15, .int 0, .ref 108]) rfl rfl ?_
  refine L_s (pc' := 11) rfl rfl ?_
  refine L_e (b := 14) (by decide) ?_
  refine L_cp (pc' := 14) rfl sh_108 sh_15 (by decide) (by decide) (by decide) (by decide) rfl rfl ?_
  refine L_let fun g1 _ => ?_
  exact L_ret rfl rfl rfl
def x_copyInts_c148  (g : Sg) : Option (Sg) :=
  lt1 (cp2 g 100 0 7 0 (Int32.toNatClampNeg 10)) (fun g1 => (some g1))
theorem e_x_copyInts_c148 {X : Xx} {d : Nat} (hd : 1 ≤ d)  (g : Sg) : ∀ r, x_copyInts_c148  g = some r → EvM zft mtl X d 145 [.ref 100, .ref 7] (SHF, g) ((fun r : Sg => ((none, (SHF, r)) : Out)) r) := by
  obtain ⟨d, rfl⟩ : ∃ d0, d = d0 + 1 := ⟨d - 1, by omega⟩
  have hd : 0 ≤ d := by omega
  refine E_in (f := (fun r : Sg => ((none, (SHF, r)) : Out))) rfl (Nat.le_of_ble_eq_true rfl) ?_
  unfold x_copyInts_c148
  change Lt X d none k_145 _ 0 [some (.ref 100), some (.ref 7)] [] g _
  refine L_s (pc' := 1) rfl rfl ?_
  refine L_ic (pc' := 2) rfl q1_0 rfl ?_
  refine L_s (pc' := 3) rfl rfl ?_
  refine L_ic (pc' := 4) rfl q1_0 rfl ?_
  refine L_s (pc' := 5) rfl rfl ?_
  refine L_s (pc' := 6) (st' := [.int 10, .int 0, .ref 7, .int 0, .ref 100]) rfl rfl ?_
  refine L_s (pc' := 7) rfl rfl ?_
  refine L_s (pc' := 8) (st' := [.int 10, .int 10, .int 0, .ref 7, .int 0, .ref 100]) rfl rfl ?_
  refine L_s (pc' := 11) rfl rfl ?_
  refine L_e (b := 10) (by decide) ?_
  refine L_cp (pc' := 14) rfl sh_100 sh_7 (by decide) (by decide) (by decide) (by decide) rfl rfl ?_
  refine L_let fun g1 _ => ?_
  exact L_ret rfl rfl rfl
def x_copyInts_c149  (g : Sg) : Option (Sg) :=
  lt1 (cp2 g 110 0 17 0 (Int32.toNatClampNeg 126)) (fun g1 => (some g1))
theorem e_x_copyInts_c149 {X : Xx} {d : Nat} (hd : 1 ≤ d)  (g : Sg) : ∀ r, x_copyInts_c149  g = some r → EvM zft mtl X d 145 [.ref 110, .ref 17] (SHF, g) ((fun r : Sg => ((none, (SHF, r)) : Out)) r) := by
  obtain ⟨d, rfl⟩ : ∃ d0, d = d0 + 1 := ⟨d - 1, by omega⟩
  have hd : 0 ≤ d := by omega
  refine E_in (f := (fun r : Sg => ((none, (SHF, r)) : Out))) rfl (Nat.le_of_ble_eq_true rfl) ?_
  unfold x_copyInts_c149
  change Lt X d none k_145 _ 0 [some (.ref 110), some (.ref 17)] [] g _
  refine L_s (pc' := 1) rfl rfl ?_
  refine L_ic (pc' := 2) rfl q1_0 rfl ?_
  refine L_s (pc' := 3) rfl rfl ?_
  refine L_ic (pc' := 4) rfl q1_0 rfl ?_
  refine L_s (pc' := 5) rfl rfl ?_
  refine L_s (pc' := 6) (st' := [.int 126, .int 0, .ref 17, .int 0, .ref 110]) rfl rfl ?_
  refine L_s (pc' := 7) rfl rfl ?_
  refine L_s (pc' := 8) (st' := [.int 126, .int 126, .int 0, .ref 17, .int 0, .ref 110]) rfl rfl ?_
  refine L_s (pc' := 11) rfl rfl ?_
  refine L_e (b := 126) (by decide) ?_
  refine L_cp (pc' := 14) rfl sh_110 sh_17 (by decide) (by decide) (by decide) (by decide) rfl rfl ?_
  refine L_let fun g1 _ => ?_
  exact L_ret rfl rfl rfl
def x_copyInts_c150  (g : Sg) : Option (Sg) :=
  lt1 (cp2 g 101 0 8 0 (Int32.toNatClampNeg 10)) (fun g1 => (some g1))
theorem e_x_copyInts_c150 {X : Xx} {d : Nat} (hd : 1 ≤ d)  (g : Sg) : ∀ r, x_copyInts_c150  g = some r → EvM zft mtl X d 145 [.ref 101, .ref 8] (SHF, g) ((fun r : Sg => ((none, (SHF, r)) : Out)) r) := by
  obtain ⟨d, rfl⟩ : ∃ d0, d = d0 + 1 := ⟨d - 1, by omega⟩
  have hd : 0 ≤ d := by omega
  refine E_in (f := (fun r : Sg => ((none, (SHF, r)) : Out))) rfl (Nat.le_of_ble_eq_true rfl) ?_
  unfold x_copyInts_c150
  change Lt X d none k_145 _ 0 [some (.ref 101), some (.ref 8)] [] g _
  refine L_s (pc' := 1) rfl rfl ?_
  refine L_ic (pc' := 2) rfl q1_0 rfl ?_
  refine L_s (pc' := 3) rfl rfl ?_
  refine L_ic (pc' := 4) rfl q1_0 rfl ?_
  refine L_s (pc' := 5) rfl rfl ?_
  refine L_s (pc' := 6) (st' := [.int 10, .int 0, .ref 8, .int 0, .ref 101]) rfl rfl ?_
  refine L_s (pc' := 7) rfl rfl ?_
  refine L_s (pc' := 8) (st' := [.int 10, .int 10, .int 0, .ref 8, .int 0, .ref 101]) rfl rfl ?_
  refine L_s (pc' := 11) rfl rfl ?_
  refine L_e (b := 10) (by decide) ?_
  refine L_cp (pc' := 14) rfl sh_101 sh_8 (by decide) (by decide) (by decide) (by decide) rfl rfl ?_
  refine L_let fun g1 _ => ?_
  exact L_ret rfl rfl rfl
def x_copyInts_c151  (g : Sg) : Option (Sg) :=
  lt1 (cp2 g 111 0 18 0 (Int32.toNatClampNeg 126)) (fun g1 => (some g1))
theorem e_x_copyInts_c151 {X : Xx} {d : Nat} (hd : 1 ≤ d)  (g : Sg) : ∀ r, x_copyInts_c151  g = some r → EvM zft mtl X d 145 [.ref 111, .ref 18] (SHF, g) ((fun r : Sg => ((none, (SHF, r)) : Out)) r) := by
  obtain ⟨d, rfl⟩ : ∃ d0, d = d0 + 1 := ⟨d - 1, by omega⟩
  have hd : 0 ≤ d := by omega
  refine E_in (f := (fun r : Sg => ((none, (SHF, r)) : Out))) rfl (Nat.le_of_ble_eq_true rfl) ?_
  unfold x_copyInts_c151
  change Lt X d none k_145 _ 0 [some (.ref 111), some (.ref 18)] [] g _
  refine L_s (pc' := 1) rfl rfl ?_
  refine L_ic (pc' := 2) rfl q1_0 rfl ?_
  refine L_s (pc' := 3) rfl rfl ?_
  refine L_ic (pc' := 4) rfl q1_0 rfl ?_
  refine L_s (pc' := 5) rfl rfl ?_
  refine L_s (pc' := 6) (st' := [.int 126, .int 0, .ref 18, .int 0, .ref 111]) rfl rfl ?_
  refine L_s (pc' := 7) rfl rfl ?_
  refine L_s (pc' := 8) (st' := [.int 126, .int 126, .int 0, .ref 18, .int 0, .ref 111]) rfl rfl ?_
  refine L_s (pc' := 11) rfl rfl ?_
  refine L_e (b := 126) (by decide) ?_
  refine L_cp (pc' := 14) rfl sh_111 sh_18 (by decide) (by decide) (by decide) (by decide) rfl rfl ?_
  refine L_let fun g1 _ => ?_
  exact L_ret rfl rfl rfl
def x_copyInts_c152  (g : Sg) : Option (Sg) :=
  lt1 (cp2 g 112 0 19 0 (Int32.toNatClampNeg 2)) (fun g1 => (some g1))
theorem e_x_copyInts_c152 {X : Xx} {d : Nat} (hd : 1 ≤ d)  (g : Sg) : ∀ r, x_copyInts_c152  g = some r → EvM zft mtl X d 145 [.ref 112, .ref 19] (SHF, g) ((fun r : Sg => ((none, (SHF, r)) : Out)) r) := by
  obtain ⟨d, rfl⟩ : ∃ d0, d = d0 + 1 := ⟨d - 1, by omega⟩
  have hd : 0 ≤ d := by omega
  refine E_in (f := (fun r : Sg => ((none, (SHF, r)) : Out))) rfl (Nat.le_of_ble_eq_true rfl) ?_
  unfold x_copyInts_c152
  change Lt X d none k_145 _ 0 [some (.ref 112), some (.ref 19)] [] g _
  refine L_s (pc' := 1) rfl rfl ?_
  refine L_ic (pc' := 2) rfl q1_0 rfl ?_
  refine L_s (pc' := 3) rfl rfl ?_
  refine L_ic (pc' := 4) rfl q1_0 rfl ?_
  refine L_s (pc' := 5) rfl rfl ?_
  refine L_s (pc' := 6) (st' := [.int 2, .int 0, .ref 19, .int 0, .ref 112]) rfl rfl ?_
  refine L_s (pc' := 7) rfl rfl ?_
  refine L_s (pc' := 8) (st' := [.int 2, .int 2, .int 0, .ref 19, .int 0, .ref 112]) rfl rfl ?_
  refine L_s (pc' := 11) rfl rfl ?_
  refine L_e (b := 2) (by decide) ?_
  refine L_cp (pc' := 14) rfl sh_112 sh_19 (by decide) (by decide) (by decide) (by decide) rfl rfl ?_
  refine L_let fun g1 _ => ?_
  exact L_ret rfl rfl rfl
def x_copyInts_c153  (g : Sg) : Option (Sg) :=
  lt1 (cp2 g 113 0 20 0 (Int32.toNatClampNeg 2)) (fun g1 => (some g1))
theorem e_x_copyInts_c153 {X : Xx} {d : Nat} (hd : 1 ≤ d)  (g : Sg) : ∀ r, x_copyInts_c153  g = some r → EvM zft mtl X d 145 [.ref 113, .ref 20] (SHF, g) ((fun r : Sg => ((none, (SHF, r)) : Out)) r) := by
  obtain ⟨d, rfl⟩ : ∃ d0, d = d0 + 1 := ⟨d - 1, by omega⟩
  have hd : 0 ≤ d := by omega
  refine E_in (f := (fun r : Sg => ((none, (SHF, r)) : Out))) rfl (Nat.le_of_ble_eq_true rfl) ?_
  unfold x_copyInts_c153
  change Lt X d none k_145 _ 0 [some (.ref 113), some (.ref 20)] [] g _
  refine L_s (pc' := 1) rfl rfl ?_
  refine L_ic (pc' := 2) rfl q1_0 rfl ?_
  refine L_s (pc' := 3) rfl rfl ?_
  refine L_ic (pc' := 4) rfl q1_0 rfl ?_
  refine L_s (pc' := 5) rfl rfl ?_
  refine L_s (pc' := 6) (st' := [.int 2, .int 0, .ref 20, .int 0, .ref 113]) rfl rfl ?_
  refine L_s (pc' := 7) rfl rfl ?_
  refine L_s (pc' := 8) (st' := [.int 2, .int 2, .int 0, .ref 20, .int 0, .ref 113]) rfl rfl ?_
  refine L_s (pc' := 11) rfl rfl ?_
  refine L_e (b := 2) (by decide) ?_
  refine L_cp (pc' := 14) rfl sh_113 sh_20 (by decide) (by decide) (by decide) (by decide) rfl rfl ?_
  refine L_let fun g1 _ => ?_
  exact L_ret rfl rfl rfl
def x_copyInts_c154  (g : Sg) : Option (Sg) :=
  lt1 (cp2 g 114 0 21 0 (Int32.toNatClampNeg 2)) (fun g1 => (some g1))
theorem e_x_copyInts_c154 {X : Xx} {d : Nat} (hd : 1 ≤ d)  (g : Sg) : ∀ r, x_copyInts_c154  g = some r → EvM zft mtl X d 145 [.ref 114, .ref 21] (SHF, g) ((fun r : Sg => ((none, (SHF, r)) : Out)) r) := by
  obtain ⟨d, rfl⟩ : ∃ d0, d = d0 + 1 := ⟨d - 1, by omega⟩
  have hd : 0 ≤ d := by omega
  refine E_in (f := (fun r : Sg => ((none, (SHF, r)) : Out))) rfl (Nat.le_of_ble_eq_true rfl) ?_
  unfold x_copyInts_c154
  change Lt X d none k_145 _ 0 [some (.ref 114), some (.ref 21)] [] g _
  refine L_s (pc' := 1) rfl rfl ?_
  refine L_ic (pc' := 2) rfl q1_0 rfl ?_
  refine L_s (pc' := 3) rfl rfl ?_
  refine L_ic (pc' := 4) rfl q1_0 rfl ?_
  refine L_s (pc' := 5) rfl rfl ?_
  refine L_s (pc' := 6) (st' := [.int 2, .int 0, .ref 21, .int 0, .ref 114]) rfl rfl ?_
  refine L_s (pc' := 7) rfl rfl ?_
  refine L_s (pc' := 8) (st' := [.int 2, .int 2, .int 0, .ref 21, .int 0, .ref 114]) rfl rfl ?_
  refine L_s (pc' := 11) rfl rfl ?_
  refine L_e (b := 2) (by decide) ?_
  refine L_cp (pc' := 14) rfl sh_114 sh_21 (by decide) (by decide) (by decide) (by decide) rfl rfl ?_
  refine L_let fun g1 _ => ?_
  exact L_ret rfl rfl rfl
def net_copyFrom_c4  (g : Sg) : Option (Sg) :=
  lt1 (up2 g 2 0 (g 95 0)) (fun g1 => lt1 (up2 g1 2 1 (g1 95 1)) (fun g2 => lt1 (up2 g2 2 6 (g2 95 6)) (fun g3 => Option.bind (x_copyInts_c139 g3) (fun g4 => Option.bind (x_copyInts_c140 g4) (fun g5 => Option.bind (x_copyInts_c141 g5) (fun g6 => Option.bind (x_copyInts_c142 g6) (fun g7 => Option.bind (x_copyInts_c143 g7) (fun g8 => Option.bind (x_copyInts_c144 g8) (fun g9 => Option.bind (x_copyInts_c145 g9) (fun g10 => Option.bind (x_copyInts_c146 g10) (fun g11 => Option.bind (x_copyInts_c147 g11) (fun g12 => Option.bind (x_copyFlags_c13 g12) (fun g13 => Option.bind (x_copyInts_c148 g13) (fun g14 => Option.bind (x_copyInts_c149 g14) (fun g15 => Option.bind (x_copyInts_c150 g15) (fun g16 => Option.bind (x_copyInts_c151 g16) (fun g17 => Option.bind (x_copyInts_c152 g17) (fun g18 => Option.bind (x_copyInts_c153 g18) (fun g19 => Option.bind (x_copyInts_c154 g19) (fun g20 => (some g20)))))))))))))))))))))
theorem e_net_copyFrom_c4 {X : Xx} {d : Nat} (hd : 2 ≤ d)  (g : Sg) : ∀ r, net_copyFrom_c4  g = some r → EvM zft mtl X d 42 [.ref 2, .ref 95] (SHF, g) ((fun r : Sg => ((none, (SHF, r)) : Out)) r) := by
  obtain ⟨d, rfl⟩ : ∃ d0, d = d0 + 1 := ⟨d - 1, by omega⟩
  have hd : 1 ≤ d := by omega
  refine E_in (f := (fun r : Sg => ((none, (SHF, r)) : Out))) rfl (Nat.le_of_ble_eq_true rfl) ?_
  unfold net_copyFrom_c4
  change Lt X d none k_42 _ 0 [some (.ref 2), some (.ref 95), none] [] g _
  refine L_s (pc' := 1) rfl rfl ?_
  refine L_s (pc' := 2) rfl rfl ?_
  refine L_gf (pc' := 5) rfl fi_95_0 rfl ?_
  refine L_pf (pc' := 8) rfl sh_2 (by decide) rfl rfl ?_
  refine L_let fun g1 _ => ?_
  refine L_s (pc' := 9) rfl rfl ?_
  refine L_s (pc' := 10) rfl rfl ?_
  refine L_gf (pc' := 13) rfl fi_95_1 rfl ?_
  refine L_pf (pc' := 16) rfl sh_2 (by decide) rfl rfl ?_
  refine L_let fun g2 _ => ?_
  refine L_s (pc' := 17) rfl rfl ?_
  refine L_s (pc' := 18) rfl rfl ?_
  refine L_gf (pc' := 21) rfl fi_95_6 rfl ?_
  refine L_pf (pc' := 24) rfl sh_2 (by decide) rfl rfl ?_
  refine L_let fun g3 _ => ?_
  refine L_s (pc' := 25) rfl rfl ?_
  refine L_gf (pc' := 28) rfl fr_95_2 rfl ?_
  refine L_s (pc' := 29) rfl rfl ?_
  refine L_gf (pc' := 32) rfl fr_2_2 rfl ?_
  refine L_cv (pc' := 35) (as := [.ref 96, .ref 3]) (rest := []) rfl rfl (e_x_copyInts_c139 (by omega) _) rfl fun g4 => ?_
  refine L_s (pc' := 36) rfl rfl ?_
  refine L_gf (pc' := 39) rfl fr_95_3 rfl ?_
  refine L_s (pc' := 40) rfl rfl ?_
  refine L_gf (pc' := 43) rfl fr_2_3 rfl ?_
  refine L_cv (pc' := 46) (as := [.ref 97, .ref 4]) (rest := []) rfl rfl (e_x_copyInts_c140 (by omega) _) rfl fun g5 => ?_
  refine L_s (pc' := 47) rfl rfl ?_
  refine L_gf (pc' := 50) rfl fr_95_4 rfl ?_
  refine L_s (pc' := 51) rfl rfl ?_
  refine L_gf (pc' := 54) rfl fr_2_4 rfl ?_
  refine L_cv (pc' := 57) (as := [.ref 98, .ref 5]) (rest := []) rfl rfl (e_x_copyInts_c141 (by omega) _) rfl fun g6 => ?_
  refine L_s (pc' := 58) rfl rfl ?_
  refine L_gf (pc' := 61) rfl fr_95_7 rfl ?_
  refine L_s (pc' := 62) rfl rfl ?_
  refine L_gf (pc' := 65) rfl fr_2_7 rfl ?_
  refine L_cv (pc' := 68) (as := [.ref 102, .ref 9]) (rest := []) rfl rfl (e_x_copyInts_c142 (by omega) _) rfl fun g7 => ?_
  refine L_s (pc' := 69) rfl rfl ?_
  refine L_gf (pc' := 72) rfl fr_95_8 rfl ?_
  refine L_s (pc' := 73) rfl rfl ?_
  refine L_gf (pc' := 76) rfl fr_2_8 rfl ?_
  refine L_cv (pc' := 79) (as := [.ref 103, .ref 10]) (rest := []) rfl rfl (e_x_copyInts_c143 (by omega) _) rfl fun g8 => ?_
  refine L_s (pc' := 80) rfl rfl ?_
  refine L_gf (pc' := 83) rfl fr_95_9 rfl ?_
  refine L_s (pc' := 84) rfl rfl ?_
  refine L_gf (pc' := 87) rfl fr_2_9 rfl ?_
  refine L_cv (pc' := 90) (as := [.ref 104, .ref 11]) (rest := []) rfl rfl (e_x_copyInts_c144 (by omega) _) rfl fun g9 => ?_
  refine L_s (pc' := 91) rfl rfl ?_
  refine L_gf (pc' := 94) rfl fr_95_10 rfl ?_
  refine L_s (pc' := 95) rfl rfl ?_
  refine L_gf (pc' := 98) rfl fr_2_10 rfl ?_
  refine L_cv (pc' := 101) (as := [.ref 105, .ref 12]) (rest := []) rfl rfl (e_x_copyInts_c145 (by omega) _) rfl fun g10 => ?_
  refine L_s (pc' := 102) rfl rfl ?_
  refine L_gf (pc' := 105) rfl fr_95_11 rfl ?_
  refine L_s (pc' := 106) rfl rfl ?_
  refine L_gf (pc' := 109) rfl fr_2_11 rfl ?_
  refine L_cv (pc' := 112) (as := [.ref 106, .ref 13]) (rest := []) rfl rfl (e_x_copyInts_c146 (by omega) _) rfl fun g11 => ?_
  refine L_s (pc' := 113) rfl rfl ?_
  refine L_gf (pc' := 116) rfl fr_95_12 rfl ?_
  refine L_s (pc' := 117) rfl rfl ?_
  refine L_gf (pc' := 120) rfl fr_2_12 rfl ?_
  refine L_cv (pc' := 123) (as := [.ref 107, .ref 14]) (rest := []) rfl rfl (e_x_copyInts_c147 (by omega) _) rfl fun g12 => ?_
  refine L_s (pc' := 124) rfl rfl ?_
  refine L_gf (pc' := 127) rfl fr_95_13 rfl ?_
  refine L_s (pc' := 128) rfl rfl ?_
  refine L_gf (pc' := 131) rfl fr_2_13 rfl ?_
  refine L_cv (pc' := 134) (as := [.ref 108, .ref 15]) (rest := []) rfl rfl (e_x_copyFlags_c13 (by omega) _) rfl fun g13 => ?_
  refine L_ic (pc' := 135) rfl q1_0 rfl ?_
  refine L_s (pc' := 136) (L' := [some (.ref 2), some (.ref 95), some (.int 0)]) rfl rfl ?_
  refine L_s (pc' := 137) rfl rfl ?_
  refine L_ic (pc' := 138) rfl q1_2 rfl ?_
  refine L_bf (c := (2 : Int32) ≤ 0) (t := 177) (n := 141) rfl rfl (by decide) ?_
  refine L_s (pc' := 142) rfl rfl ?_
  refine L_gf (pc' := 145) rfl fr_95_5 rfl ?_
  refine L_s (pc' := 146) rfl rfl ?_
  refine L_aa (pc' := 147) rfl sh_99 (by decide) (by decide) rfl rfl ?_
  refine L_s (pc' := 148) rfl rfl ?_
  refine L_gf (pc' := 151) rfl fr_2_5 rfl ?_
  refine L_s (pc' := 152) rfl rfl ?_
  refine L_aa (pc' := 153) rfl sh_6 (by decide) (by decide) rfl rfl ?_
  refine L_cv (pc' := 156) (as := [.ref 100, .ref 7]) (rest := []) rfl rfl (e_x_copyInts_c148 (by omega) _) rfl fun g14 => ?_
  refine L_s (pc' := 157) rfl rfl ?_
  refine L_gf (pc' := 160) rfl fr_95_14 rfl ?_
  refine L_s (pc' := 161) rfl rfl ?_
  refine L_aa (pc' := 162) rfl sh_109 (by decide) (by decide) rfl rfl ?_
  refine L_s (pc' := 163) rfl rfl ?_
  refine L_gf (pc' := 166) rfl fr_2_14 rfl ?_
  refine L_s (pc' := 167) rfl rfl ?_
  refine L_aa (pc' := 168) rfl sh_16 (by decide) (by decide) rfl rfl ?_
  refine L_cv (pc' := 171) (as := [.ref 110, .ref 17]) (rest := []) rfl rfl (e_x_copyInts_c149 (by omega) _) rfl fun g15 => ?_
  refine L_ii (pc' := 174) (L' := [some (.ref 2), some (.ref 95), some (.int 1)]) rfl rfl q1_1 (by decide : (0 : Int32) + 1 = 1) rfl rfl ?_
  refine L_s (pc' := 136) rfl rfl ?_
  refine L_s (pc' := 137) rfl rfl ?_
  refine L_ic (pc' := 138) rfl q1_2 rfl ?_
  refine L_bf (c := (2 : Int32) ≤ 1) (t := 177) (n := 141) rfl rfl (by decide) ?_
  refine L_s (pc' := 142) rfl rfl ?_
  refine L_gf (pc' := 145) rfl fr_95_5 rfl ?_
  refine L_s (pc' := 146) rfl rfl ?_
  refine L_aa (pc' := 147) rfl sh_99 (by decide) (by decide) rfl rfl ?_
  refine L_s (pc' := 148) rfl rfl ?_
  refine L_gf (pc' := 151) rfl fr_2_5 rfl ?_
  refine L_s (pc' := 152) rfl rfl ?_
  refine L_aa (pc' := 153) rfl sh_6 (by decide) (by decide) rfl rfl ?_
  refine L_cv (pc' := 156) (as := [.ref 101, .ref 8]) (rest := []) rfl rfl (e_x_copyInts_c150 (by omega) _) rfl fun g16 => ?_
  refine L_s (pc' := 157) rfl rfl ?_
  refine L_gf (pc' := 160) rfl fr_95_14 rfl ?_
  refine L_s (pc' := 161) rfl rfl ?_
  refine L_aa (pc' := 162) rfl sh_109 (by decide) (by decide) rfl rfl ?_
  refine L_s (pc' := 163) rfl rfl ?_
  refine L_gf (pc' := 166) rfl fr_2_14 rfl ?_
  refine L_s (pc' := 167) rfl rfl ?_
  refine L_aa (pc' := 168) rfl sh_16 (by decide) (by decide) rfl rfl ?_
  refine L_cv (pc' := 171) (as := [.ref 111, .ref 18]) (rest := []) rfl rfl (e_x_copyInts_c151 (by omega) _) rfl fun g17 => ?_
  refine L_ii (pc' := 174) (L' := [some (.ref 2), some (.ref 95), some (.int 2)]) rfl rfl q1_1 (by decide : (1 : Int32) + 1 = 2) rfl rfl ?_
  refine L_s (pc' := 136) rfl rfl ?_
  refine L_s (pc' := 137) rfl rfl ?_
  refine L_ic (pc' := 138) rfl q1_2 rfl ?_
  refine L_bt (c := (2 : Int32) ≤ 2) (t := 177) (n := 141) rfl rfl (by decide) ?_
  refine L_s (pc' := 178) rfl rfl ?_
  refine L_gf (pc' := 181) rfl fr_95_15 rfl ?_
  refine L_s (pc' := 182) rfl rfl ?_
  refine L_gf (pc' := 185) rfl fr_2_15 rfl ?_
  refine L_cv (pc' := 188) (as := [.ref 112, .ref 19]) (rest := []) rfl rfl (e_x_copyInts_c152 (by omega) _) rfl fun g18 => ?_
  refine L_s (pc' := 189) rfl rfl ?_
  refine L_gf (pc' := 192) rfl fr_95_16 rfl ?_
  refine L_s (pc' := 193) rfl rfl ?_
  refine L_gf (pc' := 196) rfl fr_2_16 rfl ?_
  refine L_cv (pc' := 199) (as := [.ref 113, .ref 20]) (rest := []) rfl rfl (e_x_copyInts_c153 (by omega) _) rfl fun g19 => ?_
  refine L_s (pc' := 200) rfl rfl ?_
  refine L_gf (pc' := 203) rfl fr_95_17 rfl ?_
  refine L_s (pc' := 204) rfl rfl ?_
  refine L_gf (pc' := 207) rfl fr_2_17 rfl ?_
  refine L_cv (pc' := 210) (as := [.ref 114, .ref 21]) (rest := []) rfl rfl (e_x_copyInts_c154 (by omega) _) rfl fun g20 => ?_
  exact L_ret rfl rfl rfl
def x_copyInts_c155  (g : Sg) : Option (Sg) :=
  lt1 (cp2 g 116 0 23 0 (Int32.toNatClampNeg 8)) (fun g1 => (some g1))
theorem e_x_copyInts_c155 {X : Xx} {d : Nat} (hd : 1 ≤ d)  (g : Sg) : ∀ r, x_copyInts_c155  g = some r → EvM zft mtl X d 145 [.ref 116, .ref 23] (SHF, g) ((fun r : Sg => ((none, (SHF, r)) : Out)) r) := by
  obtain ⟨d, rfl⟩ : ∃ d0, d = d0 + 1 := ⟨d - 1, by omega⟩
  have hd : 0 ≤ d := by omega
  refine E_in (f := (fun r : Sg => ((none, (SHF, r)) : Out))) rfl (Nat.le_of_ble_eq_true rfl) ?_
  unfold x_copyInts_c155
  change Lt X d none k_145 _ 0 [some (.ref 116), some (.ref 23)] [] g _
  refine L_s (pc' := 1) rfl rfl ?_
  refine L_ic (pc' := 2) rfl q1_0 rfl ?_
  refine L_s (pc' := 3) rfl rfl ?_
  refine L_ic (pc' := 4) rfl q1_0 rfl ?_
  refine L_s (pc' := 5) rfl rfl ?_
  refine L_s (pc' := 6) (st' := [.int 8, .int 0, .ref 23, .int 0, .ref 116]) rfl rfl ?_
  refine L_s (pc' := 7) rfl rfl ?_
  refine L_s (pc' := 8) (st' := [.int 8, .int 8, .int 0, .ref 23, .int 0, .ref 116]) rfl rfl ?_
  refine L_s (pc' := 11) rfl rfl ?_
  refine L_e (b := 8) (by decide) ?_
  refine L_cp (pc' := 14) rfl sh_116 sh_23 (by decide) (by decide) (by decide) (by decide) rfl rfl ?_
  refine L_let fun g1 _ => ?_
  exact L_ret rfl rfl rfl
def x_copyInts_c156  (g : Sg) : Option (Sg) :=
  lt1 (cp2 g 117 0 24 0 (Int32.toNatClampNeg 120)) (fun g1 => (some g1))
theorem e_x_copyInts_c156 {X : Xx} {d : Nat} (hd : 1 ≤ d)  (g : Sg) : ∀ r, x_copyInts_c156  g = some r → EvM zft mtl X d 145 [.ref 117, .ref 24] (SHF, g) ((fun r : Sg => ((none, (SHF, r)) : Out)) r) := by
  obtain ⟨d, rfl⟩ : ∃ d0, d = d0 + 1 := ⟨d - 1, by omega⟩
  have hd : 0 ≤ d := by omega
  refine E_in (f := (fun r : Sg => ((none, (SHF, r)) : Out))) rfl (Nat.le_of_ble_eq_true rfl) ?_
  unfold x_copyInts_c156
  change Lt X d none k_145 _ 0 [some (.ref 117), some (.ref 24)] [] g _
  refine L_s (pc' := 1) rfl rfl ?_
  refine L_ic (pc' := 2) rfl q1_0 rfl ?_
  refine L_s (pc' := 3) rfl rfl ?_
  refine L_ic (pc' := 4) rfl q1_0 rfl ?_
  refine L_s (pc' := 5) rfl rfl ?_
  refine L_s (pc' := 6) (st' := [.int 120, .int 0, .ref 24, .int 0, .ref 117]) rfl rfl ?_
  refine L_s (pc' := 7) rfl rfl ?_
  refine L_s (pc' := 8) (st' := [.int 120, .int 120, .int 0, .ref 24, .int 0, .ref 117]) rfl rfl ?_
  refine L_s (pc' := 11) rfl rfl ?_
  refine L_e (b := 120) (by decide) ?_
  refine L_cp (pc' := 14) rfl sh_117 sh_24 (by decide) (by decide) (by decide) (by decide) rfl rfl ?_
  refine L_let fun g1 _ => ?_
  exact L_ret rfl rfl rfl
def x_copyInts_c157  (g : Sg) : Option (Sg) :=
  lt1 (cp2 g 118 0 25 0 (Int32.toNatClampNeg 120)) (fun g1 => (some g1))
theorem e_x_copyInts_c157 {X : Xx} {d : Nat} (hd : 1 ≤ d)  (g : Sg) : ∀ r, x_copyInts_c157  g = some r → EvM zft mtl X d 145 [.ref 118, .ref 25] (SHF, g) ((fun r : Sg => ((none, (SHF, r)) : Out)) r) := by
  obtain ⟨d, rfl⟩ : ∃ d0, d = d0 + 1 := ⟨d - 1, by omega⟩
  have hd : 0 ≤ d := by omega
  refine E_in (f := (fun r : Sg => ((none, (SHF, r)) : Out))) rfl (Nat.le_of_ble_eq_true rfl) ?_
  unfold x_copyInts_c157
  change Lt X d none k_145 _ 0 [some (.ref 118), some (.ref 25)] [] g _
  refine L_s (pc' := 1) rfl rfl ?_
  refine L_ic (pc' := 2) rfl q1_0 rfl ?_
  refine L_s (pc' := 3) rfl rfl ?_
  refine L_ic (pc' := 4) rfl q1_0 rfl ?_
  refine L_s (pc' := 5) rfl rfl ?_
  refine L_s (pc' := 6) (st' := [.int 120, .int 0, .ref 25, .int 0, .ref 118]) rfl rfl ?_
  refine L_s (pc' := 7) rfl rfl ?_
  refine L_s (pc' := 8) (st' := [.int 120, .int 120, .int 0, .ref 25, .int 0, .ref 118]) rfl rfl ?_
  refine L_s (pc' := 11) rfl rfl ?_
  refine L_e (b := 120) (by decide) ?_
  refine L_cp (pc' := 14) rfl sh_118 sh_25 (by decide) (by decide) (by decide) (by decide) rfl rfl ?_
  refine L_let fun g1 _ => ?_
  exact L_ret rfl rfl rfl
def x_copyInts_c158  (g : Sg) : Option (Sg) :=
  lt1 (cp2 g 119 0 26 0 (Int32.toNatClampNeg 120)) (fun g1 => (some g1))
theorem e_x_copyInts_c158 {X : Xx} {d : Nat} (hd : 1 ≤ d)  (g : Sg) : ∀ r, x_copyInts_c158  g = some r → EvM zft mtl X d 145 [.ref 119, .ref 26] (SHF, g) ((fun r : Sg => ((none, (SHF, r)) : Out)) r) := by
  obtain ⟨d, rfl⟩ : ∃ d0, d = d0 + 1 := ⟨d - 1, by omega⟩
  have hd : 0 ≤ d := by omega
  refine E_in (f := (fun r : Sg => ((none, (SHF, r)) : Out))) rfl (Nat.le_of_ble_eq_true rfl) ?_
  unfold x_copyInts_c158
  change Lt X d none k_145 _ 0 [some (.ref 119), some (.ref 26)] [] g _
  refine L_s (pc' := 1) rfl rfl ?_
  refine L_ic (pc' := 2) rfl q1_0 rfl ?_
  refine L_s (pc' := 3) rfl rfl ?_
  refine L_ic (pc' := 4) rfl q1_0 rfl ?_
  refine L_s (pc' := 5) rfl rfl ?_
  refine L_s (pc' := 6) (st' := [.int 120, .int 0, .ref 26, .int 0, .ref 119]) rfl rfl ?_
  refine L_s (pc' := 7) rfl rfl ?_
  refine L_s (pc' := 8) (st' := [.int 120, .int 120, .int 0, .ref 26, .int 0, .ref 119]) rfl rfl ?_
  refine L_s (pc' := 11) rfl rfl ?_
  refine L_e (b := 120) (by decide) ?_
  refine L_cp (pc' := 14) rfl sh_119 sh_26 (by decide) (by decide) (by decide) (by decide) rfl rfl ?_
  refine L_let fun g1 _ => ?_
  exact L_ret rfl rfl rfl
def x_copyInts_c159  (g : Sg) : Option (Sg) :=
  lt1 (cp2 g 120 0 27 0 (Int32.toNatClampNeg 120)) (fun g1 => (some g1))
theorem e_x_copyInts_c159 {X : Xx} {d : Nat} (hd : 1 ≤ d)  (g : Sg) : ∀ r, x_copyInts_c159  g = some r → EvM zft mtl X d 145 [.ref 120, .ref 27] (SHF, g) ((fun r : Sg => ((none, (SHF, r)) : Out)) r) := by
  obtain ⟨d, rfl⟩ : ∃ d0, d = d0 + 1 := ⟨d - 1, by omega⟩
  have hd : 0 ≤ d := by omega
  refine E_in (f := (fun r : Sg => ((none, (SHF, r)) : Out))) rfl (Nat.le_of_ble_eq_true rfl) ?_
  unfold x_copyInts_c159
  change Lt X d none k_145 _ 0 [some (.ref 120), some (.ref 27)] [] g _
  refine L_s (pc' := 1) rfl rfl ?_
  refine L_ic (pc' := 2) rfl q1_0 rfl ?_
  refine L_s (pc' := 3) rfl rfl ?_
  refine L_ic (pc' := 4) rfl q1_0 rfl ?_
  refine L_s (pc' := 5) rfl rfl ?_
  refine L_s (pc' := 6) (st' := [.int 120, .int 0, .ref 27, .int 0, .ref 120]) rfl rfl ?_
  refine L_s (pc' := 7) rfl rfl ?_
  refine L_s (pc' := 8) (st' := [.int 120, .int 120, .int 0, .ref 27, .int 0, .ref 120]) rfl rfl ?_
  refine L_s (pc' := 11) rfl rfl ?_
  refine L_e (b := 120) (by decide) ?_
  refine L_cp (pc' := 14) rfl sh_120 sh_27 (by decide) (by decide) (by decide) (by decide) rfl rfl ?_
  refine L_let fun g1 _ => ?_
  exact L_ret rfl rfl rfl
def x_copyInts_c160  (g : Sg) : Option (Sg) :=
  lt1 (cp2 g 121 0 28 0 (Int32.toNatClampNeg 120)) (fun g1 => (some g1))
theorem e_x_copyInts_c160 {X : Xx} {d : Nat} (hd : 1 ≤ d)  (g : Sg) : ∀ r, x_copyInts_c160  g = some r → EvM zft mtl X d 145 [.ref 121, .ref 28] (SHF, g) ((fun r : Sg => ((none, (SHF, r)) : Out)) r) := by
  obtain ⟨d, rfl⟩ : ∃ d0, d = d0 + 1 := ⟨d - 1, by omega⟩
  have hd : 0 ≤ d := by omega
  refine E_in (f := (fun r : Sg => ((none, (SHF, r)) : Out))) rfl (Nat.le_of_ble_eq_true rfl) ?_
  unfold x_copyInts_c160
  change Lt X d none k_145 _ 0 [some (.ref 121), some (.ref 28)] [] g _
  refine L_s (pc' := 1) rfl rfl ?_
  refine L_ic (pc' := 2) rfl q1_0 rfl ?_
  refine L_s (pc' := 3) rfl rfl ?_
  refine L_ic (pc' := 4) rfl q1_0 rfl ?_
  refine L_s (pc' := 5) rfl rfl ?_
  refine L_s (pc' := 6) (st' := [.int 120, .int 0, .ref 28, .int 0, .ref 121]) rfl rfl ?_
  refine L_s (pc' := 7) rfl rfl ?_
  refine L_s (pc' := 8) (st' := [.int 120, .int 120, .int 0, .ref 28, .int 0, .ref 121]) rfl rfl ?_
  refine L_s (pc' := 11) rfl rfl ?_
  refine L_e (b := 120) (by decide) ?_
  refine L_cp (pc' := 14) rfl sh_121 sh_28 (by decide) (by decide) (by decide) (by decide) rfl rfl ?_
  refine L_let fun g1 _ => ?_
  exact L_ret rfl rfl rfl
def x_copyInts_c161  (g : Sg) : Option (Sg) :=
  lt1 (cp2 g 122 0 29 0 (Int32.toNatClampNeg 120)) (fun g1 => (some g1))
theorem e_x_copyInts_c161 {X : Xx} {d : Nat} (hd : 1 ≤ d)  (g : Sg) : ∀ r, x_copyInts_c161  g = some r → EvM zft mtl X d 145 [.ref 122, .ref 29] (SHF, g) ((fun r : Sg => ((none, (SHF, r)) : Out)) r) := by
  obtain ⟨d, rfl⟩ : ∃ d0, d = d0 + 1 := ⟨d - 1, by omega⟩
  have hd : 0 ≤ d := by omega
  refine E_in (f := (fun r : Sg => ((none, (SHF, r)) : Out))) rfl (Nat.le_of_ble_eq_true rfl) ?_
  unfold x_copyInts_c161
  change Lt X d none k_145 _ 0 [some (.ref 122), some (.ref 29)] [] g _
  refine L_s (pc' := 1) rfl rfl ?_
  refine L_ic (pc' := 2) rfl q1_0 rfl ?_
  refine L_s (pc' := 3) rfl rfl ?_
  refine L_ic (pc' := 4) rfl q1_0 rfl ?_
  refine L_s (pc' := 5) rfl rfl ?_
  refine L_s (pc' := 6) (st' := [.int 120, .int 0, .ref 29, .int 0, .ref 122]) rfl rfl ?_
  refine L_s (pc' := 7) rfl rfl ?_
  refine L_s (pc' := 8) (st' := [.int 120, .int 120, .int 0, .ref 29, .int 0, .ref 122]) rfl rfl ?_
  refine L_s (pc' := 11) rfl rfl ?_
  refine L_e (b := 120) (by decide) ?_
  refine L_cp (pc' := 14) rfl sh_122 sh_29 (by decide) (by decide) (by decide) (by decide) rfl rfl ?_
  refine L_let fun g1 _ => ?_
  exact L_ret rfl rfl rfl
def x_copyBytes_c8  (g : Sg) : Option (Sg) :=
  lt1 (cp2 g 123 0 30 0 (Int32.toNatClampNeg 2400)) (fun g1 => (some g1))
theorem e_x_copyBytes_c8 {X : Xx} {d : Nat} (hd : 1 ≤ d)  (g : Sg) : ∀ r, x_copyBytes_c8  g = some r → EvM zft mtl X d 146 [.ref 123, .ref 30] (SHF, g) ((fun r : Sg => ((none, (SHF, r)) : Out)) r) := by
  obtain ⟨d, rfl⟩ : ∃ d0, d = d0 + 1 := ⟨d - 1, by omega⟩
  have hd : 0 ≤ d := by omega
  refine E_in (f := (fun r : Sg => ((none, (SHF, r)) : Out))) rfl (Nat.le_of_ble_eq_true rfl) ?_
  unfold x_copyBytes_c8
  change Lt X d none k_146 _ 0 [some (.ref 123), some (.ref 30)] [] g _
  refine L_s (pc' := 1) rfl rfl ?_
  refine L_ic (pc' := 2) rfl q1_0 rfl ?_
  refine L_s (pc' := 3) rfl rfl ?_
  refine L_ic (pc' := 4) rfl q1_0 rfl ?_
  refine L_s (pc' := 5) rfl rfl ?_
  refine L_s (pc' := 6) (st' := [.int 2400, .int 0, .ref 30, .int 0, .ref 123]) rfl rfl ?_
  refine L_s (pc' := 7) rfl rfl ?_
  refine L_s (pc' := 8) (st' := [.int 2400, .int 2400, .int 0, .ref 30, .int 0, .ref 123]) rfl rfl ?_
  refine L_s (pc' := 11) rfl rfl ?_
  refine L_e (b := 2400) (by decide) ?_
  refine L_cp (pc' := 14) rfl sh_123 sh_30 (by decide) (by decide) (by decide) (by decide) rfl rfl ?_
  refine L_let fun g1 _ => ?_
  exact L_ret rfl rfl rfl
def rights_copyFrom_c4  (g : Sg) : Option (Sg) :=
  Option.bind (x_copyInts_c155 g) (fun g1 => lt1 (up2 g1 22 1 (g1 115 1)) (fun g2 => Option.bind (x_copyInts_c156 g2) (fun g3 => Option.bind (x_copyInts_c157 g3) (fun g4 => Option.bind (x_copyInts_c158 g4) (fun g5 => Option.bind (x_copyInts_c159 g5) (fun g6 => Option.bind (x_copyInts_c160 g6) (fun g7 => Option.bind (x_copyInts_c161 g7) (fun g8 => lt1 (up2 g8 22 8 (g8 115 8)) (fun g9 => Option.bind (x_copyBytes_c8 g9) (fun g10 => (some g10)))))))))))
theorem e_rights_copyFrom_c4 {X : Xx} {d : Nat} (hd : 2 ≤ d)  (g : Sg) : ∀ r, rights_copyFrom_c4  g = some r → EvM zft mtl X d 77 [.ref 22, .ref 115] (SHF, g) ((fun r : Sg => ((none, (SHF, r)) : Out)) r) := by
  obtain ⟨d, rfl⟩ : ∃ d0, d = d0 + 1 := ⟨d - 1, by omega⟩
  have hd : 1 ≤ d := by omega
  refine E_in (f := (fun r : Sg => ((none, (SHF, r)) : Out))) rfl (Nat.le_of_ble_eq_true rfl) ?_
  unfold rights_copyFrom_c4
  change Lt X d none k_77 _ 0 [some (.ref 22), some (.ref 115)] [] g _
  refine L_s (pc' := 1) rfl rfl ?_
  refine L_gf (pc' := 4) rfl fr_115_0 rfl ?_
  refine L_s (pc' := 5) rfl rfl ?_
  refine L_gf (pc' := 8) rfl fr_22_0 rfl ?_
  refine L_cv (pc' := 11) (as := [.ref 116, .ref 23]) (rest := []) rfl rfl (e_x_copyInts_c155 (by omega) _) rfl fun g1 => ?_
  refine L_s (pc' := 12) rfl rfl ?_
  refine L_s (pc' := 13) rfl rfl ?_
  refine L_gf (pc' := 16) rfl fi_115_1 rfl ?_
  refine L_pf (pc' := 19) rfl sh_22 (by decide) rfl rfl ?_
  refine L_let fun g2 _ => ?_
  refine L_s (pc' := 20) rfl rfl ?_
  refine L_gf (pc' := 23) rfl fr_115_2 rfl ?_
  refine L_s (pc' := 24) rfl rfl ?_
  refine L_gf (pc' := 27) rfl fr_22_2 rfl ?_
  refine L_cv (pc' := 30) (as := [.ref 117, .ref 24]) (rest := []) rfl rfl (e_x_copyInts_c156 (by omega) _) rfl fun g3 => ?_
  refine L_s (pc' := 31) rfl rfl ?_
  refine L_gf (pc' := 34) rfl fr_115_3 rfl ?_
  refine L_s (pc' := 35) rfl rfl ?_
  refine L_gf (pc' := 38) rfl fr_22_3 rfl ?_
  refine L_cv (pc' := 41) (as := [.ref 118, .ref 25]) (rest := []) rfl rfl (e_x_copyInts_c157 (by omega) _) rfl fun g4 => ?_
  refine L_s (pc' := 42) rfl rfl ?_
  refine L_gf (pc' := 45) rfl fr_115_4 rfl ?_
  refine L_s (pc' := 46) rfl rfl ?_
  refine L_gf (pc' := 49) rfl fr_22_4 rfl ?_
  refine L_cv (pc' := 52) (as := [.ref 119, .ref 26]) (rest := []) rfl rfl (e_x_copyInts_c158 (by omega) _) rfl fun g5 => ?_
  refine L_s (pc' := 53) rfl rfl ?_
  refine L_gf (pc' := 56) rfl fr_115_5 rfl ?_
  refine L_s (pc' := 57) rfl rfl ?_
  refine L_gf (pc' := 60) rfl fr_22_5 rfl ?_
  refine L_cv (pc' := 63) (as := [.ref 120, .ref 27]) (rest := []) rfl rfl (e_x_copyInts_c159 (by omega) _) rfl fun g6 => ?_
  refine L_s (pc' := 64) rfl rfl ?_
  refine L_gf (pc' := 67) rfl fr_115_6 rfl ?_
  refine L_s (pc' := 68) rfl rfl ?_
  refine L_gf (pc' := 71) rfl fr_22_6 rfl ?_
  refine L_cv (pc' := 74) (as := [.ref 121, .ref 28]) (rest := []) rfl rfl (e_x_copyInts_c160 (by omega) _) rfl fun g7 => ?_
  refine L_s (pc' := 75) rfl rfl ?_
  refine L_gf (pc' := 78) rfl fr_115_7 rfl ?_
  refine L_s (pc' := 79) rfl rfl ?_
  refine L_gf (pc' := 82) rfl fr_22_7 rfl ?_
  refine L_cv (pc' := 85) (as := [.ref 122, .ref 29]) (rest := []) rfl rfl (e_x_copyInts_c161 (by omega) _) rfl fun g8 => ?_
  refine L_s (pc' := 86) rfl rfl ?_
  refine L_s (pc' := 87) rfl rfl ?_
  refine L_gf (pc' := 90) rfl fi_115_8 rfl ?_
  refine L_pf (pc' := 93) rfl sh_22 (by decide) rfl rfl ?_
  refine L_let fun g9 _ => ?_
  refine L_s (pc' := 94) rfl rfl ?_
  refine L_gf (pc' := 97) rfl fr_115_9 rfl ?_
  refine L_s (pc' := 98) rfl rfl ?_
  refine L_gf (pc' := 101) rfl fr_22_9 rfl ?_
  refine L_cv (pc' := 104) (as := [.ref 123, .ref 30]) (rest := []) rfl rfl (e_x_copyBytes_c8 (by omega) _) rfl fun g10 => ?_
  exact L_ret rfl rfl rfl
def x_copyBytes_c9  (g : Sg) : Option (Sg) :=
  lt1 (cp2 g 125 0 32 0 (Int32.toNatClampNeg 500)) (fun g1 => (some g1))
theorem e_x_copyBytes_c9 {X : Xx} {d : Nat} (hd : 1 ≤ d)  (g : Sg) : ∀ r, x_copyBytes_c9  g = some r → EvM zft mtl X d 146 [.ref 125, .ref 32] (SHF, g) ((fun r : Sg => ((none, (SHF, r)) : Out)) r) := by
  obtain ⟨d, rfl⟩ : ∃ d0, d = d0 + 1 := ⟨d - 1, by omega⟩
  have hd : 0 ≤ d := by omega
  refine E_in (f := (fun r : Sg => ((none, (SHF, r)) : Out))) rfl (Nat.le_of_ble_eq_true rfl) ?_
  unfold x_copyBytes_c9
  change Lt X d none k_146 _ 0 [some (.ref 125), some (.ref 32)] [] g _
  refine L_s (pc' := 1) rfl rfl ?_
  refine L_ic (pc' := 2) rfl q1_0 rfl ?_
  refine L_s (pc' := 3) rfl rfl ?_
  refine L_ic (pc' := 4) rfl q1_0 rfl ?_
  refine L_s (pc' := 5) rfl rfl ?_
  refine L_s (pc' := 6) (st' := [.int 500, .int 0, .ref 32, .int 0, .ref 125]) rfl rfl ?_
  refine L_s (pc' := 7) rfl rfl ?_
  refine L_s (pc' := 8) (st' := [.int 500, .int 500, .int 0, .ref 32, .int 0, .ref 125]) rfl rfl ?_
  refine L_s (pc' := 11) rfl rfl ?_
  refine L_e (b := 500) (by decide) ?_
  refine L_cp (pc' := 14) rfl sh_125 sh_32 (by decide) (by decide) (by decide) (by decide) rfl rfl ?_
  refine L_let fun g1 _ => ?_
  exact L_ret rfl rfl rfl
def x_copyInts_c162  (g : Sg) : Option (Sg) :=
  lt1 (cp2 g 127 0 34 0 (Int32.toNatClampNeg 16)) (fun g1 => (some g1))
theorem e_x_copyInts_c162 {X : Xx} {d : Nat} (hd : 1 ≤ d)  (g : Sg) : ∀ r, x_copyInts_c162  g = some r → EvM zft mtl X d 145 [.ref 127, .ref 34] (SHF, g) ((fun r : Sg => ((none, (SHF, r)) : Out)) r) := by
  obtain ⟨d, rfl⟩ : ∃ d0, d = d0 + 1 := ⟨d - 1, by omega⟩
  have hd : 0 ≤ d := by omega
  refine E_in (f := (fun r : Sg => ((none, (SHF, r)) : Out))) rfl (Nat.le_of_ble_eq_true rfl) ?_
  unfold x_copyInts_c162
  change Lt X d none k_145 _ 0 [some (.ref 127), some (.ref 34)] [] g _
  refine L_s (pc' := 1) rfl rfl ?_
  refine L_ic (pc' := 2) rfl q1_0 rfl ?_
  refine L_s (pc' := 3) rfl rfl ?_
  refine L_ic (pc' := 4) rfl q1_0 rfl ?_
  refine L_s (pc' := 5) rfl rfl ?_
  refine L_s (pc' := 6) (st' := [.int 16, .int 0, .ref 34, .int 0, .ref 127]) rfl rfl ?_
  refine L_s (pc' := 7) rfl rfl ?_
  refine L_s (pc' := 8) (st' := [.int 16, .int 16, .int 0, .ref 34, .int 0, .ref 127]) rfl rfl ?_
  refine L_s (pc' := 11) rfl rfl ?_
  refine L_e (b := 16) (by decide) ?_
  refine L_cp (pc' := 14) rfl sh_127 sh_34 (by decide) (by decide) (by decide) (by decide) rfl rfl ?_
  refine L_let fun g1 _ => ?_
  exact L_ret rfl rfl rfl
def x_copyInts_c163  (g : Sg) : Option (Sg) :=
  lt1 (cp2 g 128 0 35 0 (Int32.toNatClampNeg 16)) (fun g1 => (some g1))
theorem e_x_copyInts_c163 {X : Xx} {d : Nat} (hd : 1 ≤ d)  (g : Sg) : ∀ r, x_copyInts_c163  g = some r → EvM zft mtl X d 145 [.ref 128, .ref 35] (SHF, g) ((fun r : Sg => ((none, (SHF, r)) : Out)) r) := by
  obtain ⟨d, rfl⟩ : ∃ d0, d = d0 + 1 := ⟨d - 1, by omega⟩
  have hd : 0 ≤ d := by omega
  refine E_in (f := (fun r : Sg => ((none, (SHF, r)) : Out))) rfl (Nat.le_of_ble_eq_true rfl) ?_
  unfold x_copyInts_c163
  change Lt X d none k_145 _ 0 [some (.ref 128), some (.ref 35)] [] g _
  refine L_s (pc' := 1) rfl rfl ?_
  refine L_ic (pc' := 2) rfl q1_0 rfl ?_
  refine L_s (pc' := 3) rfl rfl ?_
  refine L_ic (pc' := 4) rfl q1_0 rfl ?_
  refine L_s (pc' := 5) rfl rfl ?_
  refine L_s (pc' := 6) (st' := [.int 16, .int 0, .ref 35, .int 0, .ref 128]) rfl rfl ?_
  refine L_s (pc' := 7) rfl rfl ?_
  refine L_s (pc' := 8) (st' := [.int 16, .int 16, .int 0, .ref 35, .int 0, .ref 128]) rfl rfl ?_
  refine L_s (pc' := 11) rfl rfl ?_
  refine L_e (b := 16) (by decide) ?_
  refine L_cp (pc' := 14) rfl sh_128 sh_35 (by decide) (by decide) (by decide) (by decide) rfl rfl ?_
  refine L_let fun g1 _ => ?_
  exact L_ret rfl rfl rfl
def x_copyInts_c164  (g : Sg) : Option (Sg) :=
  lt1 (cp2 g 129 0 36 0 (Int32.toNatClampNeg 16)) (fun g1 => (some g1))
theorem e_x_copyInts_c164 {X : Xx} {d : Nat} (hd : 1 ≤ d)  (g : Sg) : ∀ r, x_copyInts_c164  g = some r → EvM zft mtl X d 145 [.ref 129, .ref 36] (SHF, g) ((fun r : Sg => ((none, (SHF, r)) : Out)) r) := by
  obtain ⟨d, rfl⟩ : ∃ d0, d = d0 + 1 := ⟨d - 1, by omega⟩
  have hd : 0 ≤ d := by omega
  refine E_in (f := (fun r : Sg => ((none, (SHF, r)) : Out))) rfl (Nat.le_of_ble_eq_true rfl) ?_
  unfold x_copyInts_c164
  change Lt X d none k_145 _ 0 [some (.ref 129), some (.ref 36)] [] g _
  refine L_s (pc' := 1) rfl rfl ?_
  refine L_ic (pc' := 2) rfl q1_0 rfl ?_
  refine L_s (pc' := 3) rfl rfl ?_
  refine L_ic (pc' := 4) rfl q1_0 rfl ?_
  refine L_s (pc' := 5) rfl rfl ?_
  refine L_s (pc' := 6) (st' := [.int 16, .int 0, .ref 36, .int 0, .ref 129]) rfl rfl ?_
  refine L_s (pc' := 7) rfl rfl ?_
  refine L_s (pc' := 8) (st' := [.int 16, .int 16, .int 0, .ref 36, .int 0, .ref 129]) rfl rfl ?_
  refine L_s (pc' := 11) rfl rfl ?_
  refine L_e (b := 16) (by decide) ?_
  refine L_cp (pc' := 14) rfl sh_129 sh_36 (by decide) (by decide) (by decide) (by decide) rfl rfl ?_
  refine L_let fun g1 _ => ?_
  exact L_ret rfl rfl rfl
def x_copyFlags_c14  (g : Sg) : Option (Sg) :=
  lt1 (cp2 g 130 0 37 0 (Int32.toNatClampNeg 64)) (fun g1 => (some g1))
theorem e_x_copyFlags_c14 {X : Xx} {d : Nat} (hd : 1 ≤ d)  (g : Sg) : ∀ r, x_copyFlags_c14  g = some r → EvM zft mtl X d 147 [.ref 130, .ref 37] (SHF, g) ((fun r : Sg => ((none, (SHF, r)) : Out)) r) := by
  obtain ⟨d, rfl⟩ : ∃ d0, d = d0 + 1 := ⟨d - 1, by omega⟩
  have hd : 0 ≤ d := by omega
  refine E_in (f := (fun r : Sg => ((none, (SHF, r)) : Out))) rfl (Nat.le_of_ble_eq_true rfl) ?_
  unfold x_copyFlags_c14
  change Lt X d none k_147 _ 0 [some (.ref 130), some (.ref 37)] [] g _
  refine L_s (pc' := 1) rfl rfl ?_
  refine L_ic (pc' := 2) rfl q1_0 rfl ?_
  refine L_s (pc' := 3) rfl rfl ?_
  refine L_ic (pc' := 4) rfl q1_0 rfl ?_
  refine L_s (pc' := 5) rfl rfl ?_
  refine L_s (pc' := 6) (st' := [.int 64, .int 0, .ref 37, .int 0, .ref 130]) rfl rfl ?_
  refine L_s (pc' := 7) rfl rfl ?_
  refine L_s (pc' := 8) (st' := [.int 64, .int 64, .int 0, .ref 37, .int 0, .ref 130]) rfl rfl ?_
  refine L_s (pc' := 11) rfl rfl ?_
  refine L_e (b := 64) (by decide) ?_
  refine L_cp (pc' := 14) rfl sh_130 sh_37 (by decide) (by decide) (by decide) (by decide) rfl rfl ?_
  refine L_let fun g1 _ => ?_
  exact L_ret rfl rfl rfl
def x_copyInts_c165  (g : Sg) : Option (Sg) :=
  lt1 (cp2 g 131 0 38 0 (Int32.toNatClampNeg 64)) (fun g1 => (some g1))
theorem e_x_copyInts_c165 {X : Xx} {d : Nat} (hd : 1 ≤ d)  (g : Sg) : ∀ r, x_copyInts_c165  g = some r → EvM zft mtl X d 145 [.ref 131, .ref 38] (SHF, g) ((fun r : Sg => ((none, (SHF, r)) : Out)) r) := by
  obtain ⟨d, rfl⟩ : ∃ d0, d = d0 + 1 := ⟨d - 1, by omega⟩
  have hd : 0 ≤ d := by omega
  refine E_in (f := (fun r : Sg => ((none, (SHF, r)) : Out))) rfl (Nat.le_of_ble_eq_true rfl) ?_
  unfold x_copyInts_c165
  change Lt X d none k_145 _ 0 [some (.ref 131), some (.ref 38)] [] g _
  refine L_s (pc' := 1) rfl rfl ?_
  refine L_ic (pc' := 2) rfl q1_0 rfl ?_
  refine L_s (pc' := 3) rfl rfl ?_
  refine L_ic (pc' := 4) rfl q1_0 rfl ?_
  refine L_s (pc' := 5) rfl rfl ?_
  refine L_s (pc' := 6) (st' := [.int 64, .int 0, .ref 38, .int 0, .ref 131]) rfl rfl ?_
  refine L_s (pc' := 7) rfl rfl ?_
  refine L_s (pc' := 8) (st' := [.int 64, .int 64, .int 0, .ref 38, .int 0, .ref 131]) rfl rfl ?_
  refine L_s (pc' := 11) rfl rfl ?_
  refine L_e (b := 64) (by decide) ?_
  refine L_cp (pc' := 14) rfl sh_131 sh_38 (by decide) (by decide) (by decide) (by decide) rfl rfl ?_
  refine L_let fun g1 _ => ?_
  exact L_ret rfl rfl rfl
def x_copyInts_c166  (g : Sg) : Option (Sg) :=
  lt1 (cp2 g 132 0 39 0 (Int32.toNatClampNeg 64)) (fun g1 => (some g1))
theorem e_x_copyInts_c166 {X : Xx} {d : Nat} (hd : 1 ≤ d)  (g : Sg) : ∀ r, x_copyInts_c166  g = some r → EvM zft mtl X d 145 [.ref 132, .ref 39] (SHF, g) ((fun r : Sg => ((none, (SHF, r)) : Out)) r) := by
  obtain ⟨d, rfl⟩ : ∃ d0, d = d0 + 1 := ⟨d - 1, by omega⟩
  have hd : 0 ≤ d := by omega
  refine E_in (f := (fun r : Sg => ((none, (SHF, r)) : Out))) rfl (Nat.le_of_ble_eq_true rfl) ?_
  unfold x_copyInts_c166
  change Lt X d none k_145 _ 0 [some (.ref 132), some (.ref 39)] [] g _
  refine L_s (pc' := 1) rfl rfl ?_
  refine L_ic (pc' := 2) rfl q1_0 rfl ?_
  refine L_s (pc' := 3) rfl rfl ?_
  refine L_ic (pc' := 4) rfl q1_0 rfl ?_
  refine L_s (pc' := 5) rfl rfl ?_
  refine L_s (pc' := 6) (st' := [.int 64, .int 0, .ref 39, .int 0, .ref 132]) rfl rfl ?_
  refine L_s (pc' := 7) rfl rfl ?_
  refine L_s (pc' := 8) (st' := [.int 64, .int 64, .int 0, .ref 39, .int 0, .ref 132]) rfl rfl ?_
  refine L_s (pc' := 11) rfl rfl ?_
  refine L_e (b := 64) (by decide) ?_
  refine L_cp (pc' := 14) rfl sh_132 sh_39 (by decide) (by decide) (by decide) (by decide) rfl rfl ?_
  refine L_let fun g1 _ => ?_
  exact L_ret rfl rfl rfl
def x_copyInts_c167  (g : Sg) : Option (Sg) :=
  lt1 (cp2 g 133 0 40 0 (Int32.toNatClampNeg 64)) (fun g1 => (some g1))
theorem e_x_copyInts_c167 {X : Xx} {d : Nat} (hd : 1 ≤ d)  (g : Sg) : ∀ r, x_copyInts_c167  g = some r → EvM zft mtl X d 145 [.ref 133, .ref 40] (SHF, g) ((fun r : Sg => ((none, (SHF, r)) : Out)) r) := by
  obtain ⟨d, rfl⟩ : ∃ d0, d = d0 + 1 := ⟨d - 1, by omega⟩
  have hd : 0 ≤ d := by omega
  refine E_in (f := (fun r : Sg => ((none, (SHF, r)) : Out))) rfl (Nat.le_of_ble_eq_true rfl) ?_
  unfold x_copyInts_c167
  change Lt X d none k_145 _ 0 [some (.ref 133), some (.ref 40)] [] g _
  refine L_s (pc' := 1) rfl rfl ?_
  refine L_ic (pc' := 2) rfl q1_0 rfl ?_
  refine L_s (pc' := 3) rfl rfl ?_
  refine L_ic (pc' := 4) rfl q1_0 rfl ?_
  refine L_s (pc' := 5) rfl rfl ?_
  refine L_s (pc' := 6) (st' := [.int 64, .int 0, .ref 40, .int 0, .ref 133]) rfl rfl ?_
  refine L_s (pc' := 7) rfl rfl ?_
  refine L_s (pc' := 8) (st' := [.int 64, .int 64, .int 0, .ref 40, .int 0, .ref 133]) rfl rfl ?_
  refine L_s (pc' := 11) rfl rfl ?_
  refine L_e (b := 64) (by decide) ?_
  refine L_cp (pc' := 14) rfl sh_133 sh_40 (by decide) (by decide) (by decide) (by decide) rfl rfl ?_
  refine L_let fun g1 _ => ?_
  exact L_ret rfl rfl rfl
def lines_copyFrom_c5  (g : Sg) : Option (Sg) :=
  lt1 (up2 g 33 0 (g 126 0)) (fun g1 => Option.bind (x_copyInts_c162 g1) (fun g2 => Option.bind (x_copyInts_c163 g2) (fun g3 => Option.bind (x_copyInts_c164 g3) (fun g4 => Option.bind (x_copyFlags_c14 g4) (fun g5 => Option.bind (x_copyInts_c165 g5) (fun g6 => Option.bind (x_copyInts_c166 g6) (fun g7 => Option.bind (x_copyInts_c167 g7) (fun g8 => (some g8)))))))))
theorem e_lines_copyFrom_c5 {X : Xx} {d : Nat} (hd : 2 ≤ d)  (g : Sg) : ∀ r, lines_copyFrom_c5  g = some r → EvM zft mtl X d 20 [.ref 33, .ref 126] (SHF, g) ((fun r : Sg => ((none, (SHF, r)) : Out)) r) := by
  obtain ⟨d, rfl⟩ : ∃ d0, d = d0 + 1 := ⟨d - 1, by omega⟩
  have hd : 1 ≤ d := by omega
  refine E_in (f := (fun r : Sg => ((none, (SHF, r)) : Out))) rfl (Nat.le_of_ble_eq_true rfl) ?_
  unfold lines_copyFrom_c5
  change Lt X d none k_20 _ 0 [some (.ref 33), some (.ref 126)] [] g _
  refine L_s (pc' := 1) rfl rfl ?_
  refine L_s (pc' := 2) rfl rfl ?_
  refine L_gf (pc' := 5) rfl fi_126_0 rfl ?_
  refine L_pf (pc' := 8) rfl sh_33 (by decide) rfl rfl ?_
  refine L_let fun g1 _ => ?_
  refine L_s (pc' := 9) rfl rfl ?_
  refine L_gf (pc' := 12) rfl fr_126_1 rfl ?_
  refine L_s (pc' := 13) rfl rfl ?_
  refine L_gf (pc' := 16) rfl fr_33_1 rfl ?_
  refine L_cv (pc' := 19) (as := [.ref 127, .ref 34]) (rest := []) rfl rfl (e_x_copyInts_c162 (by omega) _) rfl fun g2 => ?_
  refine L_s (pc' := 20) rfl rfl ?_
  refine L_gf (pc' := 23) rfl fr_126_2 rfl ?_
  refine L_s (pc' := 24) rfl rfl ?_
  refine L_gf (pc' := 27) rfl fr_33_2 rfl ?_
  refine L_cv (pc' := 30) (as := [.ref 128, .ref 35]) (rest := []) rfl rfl (e_x_copyInts_c163 (by omega) _) rfl fun g3 => ?_
  refine L_s (pc' := 31) rfl rfl ?_
  refine L_gf (pc' := 34) rfl fr_126_3 rfl ?_
  refine L_s (pc' := 35) rfl rfl ?_
  refine L_gf (pc' := 38) rfl fr_33_3 rfl ?_
  refine L_cv (pc' := 41) (as := [.ref 129, .ref 36]) (rest := []) rfl rfl (e_x_copyInts_c164 (by omega) _) rfl fun g4 => ?_
  refine L_s (pc' := 42) rfl rfl ?_
  refine L_gf (pc' := 45) rfl fr_126_4 rfl ?_
  refine L_s (pc' := 46) rfl rfl ?_
  refine L_gf (pc' := 49) rfl fr_33_4 rfl ?_
  refine L_cv (pc' := 52) (as := [.ref 130, .ref 37]) (rest := []) rfl rfl (e_x_copyFlags_c14 (by omega) _) rfl fun g5 => ?_
  refine L_s (pc' := 53) rfl rfl ?_
  refine L_gf (pc' := 56) rfl fr_126_5 rfl ?_
  refine L_s (pc' := 57) rfl rfl ?_
  refine L_gf (pc' := 60) rfl fr_33_5 rfl ?_
  refine L_cv (pc' := 63) (as := [.ref 131, .ref 38]) (rest := []) rfl rfl (e_x_copyInts_c165 (by omega) _) rfl fun g6 => ?_
  refine L_s (pc' := 64) rfl rfl ?_
  refine L_gf (pc' := 67) rfl fr_126_6 rfl ?_
  refine L_s (pc' := 68) rfl rfl ?_
  refine L_gf (pc' := 71) rfl fr_33_6 rfl ?_
  refine L_cv (pc' := 74) (as := [.ref 132, .ref 39]) (rest := []) rfl rfl (e_x_copyInts_c166 (by omega) _) rfl fun g7 => ?_
  refine L_s (pc' := 75) rfl rfl ?_
  refine L_gf (pc' := 78) rfl fr_126_7 rfl ?_
  refine L_s (pc' := 79) rfl rfl ?_
  refine L_gf (pc' := 82) rfl fr_33_7 rfl ?_
  refine L_cv (pc' := 85) (as := [.ref 133, .ref 40]) (rest := []) rfl rfl (e_x_copyInts_c167 (by omega) _) rfl fun g8 => ?_
  exact L_ret rfl rfl rfl
def x_copyFlags_c15  (g : Sg) : Option (Sg) :=
  lt1 (cp2 g 134 0 41 0 (Int32.toNatClampNeg 100)) (fun g1 => (some g1))
theorem e_x_copyFlags_c15 {X : Xx} {d : Nat} (hd : 1 ≤ d)  (g : Sg) : ∀ r, x_copyFlags_c15  g = some r → EvM zft mtl X d 147 [.ref 134, .ref 41] (SHF, g) ((fun r : Sg => ((none, (SHF, r)) : Out)) r) := by
  obtain ⟨d, rfl⟩ : ∃ d0, d = d0 + 1 := ⟨d - 1, by omega⟩
  have hd : 0 ≤ d := by omega
  refine E_in (f := (fun r : Sg => ((none, (SHF, r)) : Out))) rfl (Nat.le_of_ble_eq_true rfl) ?_
  unfold x_copyFlags_c15
  change Lt X d none k_147 _ 0 [some (.ref 134), some (.ref 41)] [] g _
  refine L_s (pc' := 1) rfl rfl ?_
  refine L_ic (pc' := 2) rfl q1_0 rfl ?_
  refine L_s (pc' := 3) rfl rfl ?_
  refine L_ic (pc' := 4) rfl q1_0 rfl ?_
  refine L_s (pc' := 5) rfl rfl ?_
  refine L_s (pc' := 6) (st' := [.int 100, .int 0, .ref 41, .int 0, .ref 134]) rfl rfl ?_
  refine L_s (pc' := 7) rfl rfl ?_
  refine L_s (pc' := 8) (st' := [.int 100, .int 100, .int 0, .ref 41, .int 0, .ref 134]) rfl rfl ?_
  refine L_s (pc' := 11) rfl rfl ?_
  refine L_e (b := 100) (by decide) ?_
  refine L_cp (pc' := 14) rfl sh_134 sh_41 (by decide) (by decide) (by decide) (by decide) rfl rfl ?_
  refine L_let fun g1 _ => ?_
  exact L_ret rfl rfl rfl
def law_copyFrom_c4  (g : Sg) : Option (Sg) :=
  lt1 (up2 g 31 0 (g 124 0)) (fun g1 => Option.bind (x_copyBytes_c9 g1) (fun g2 => lt1 (up2 g2 31 2 (g2 124 2)) (fun g3 => lt1 (up2 g3 31 3 (g3 124 3)) (fun g4 => Option.bind (lines_copyFrom_c5 g4) (fun g5 => Option.bind (x_copyFlags_c15 g5) (fun g6 => (some g6)))))))
theorem e_law_copyFrom_c4 {X : Xx} {d : Nat} (hd : 3 ≤ d)  (g : Sg) : ∀ r, law_copyFrom_c4  g = some r → EvM zft mtl X d 18 [.ref 31, .ref 124] (SHF, g) ((fun r : Sg => ((none, (SHF, r)) : Out)) r) := by
  obtain ⟨d, rfl⟩ : ∃ d0, d = d0 + 1 := ⟨d - 1, by omega⟩
  have hd : 2 ≤ d := by omega
  refine E_in (f := (fun r : Sg => ((none, (SHF, r)) : Out))) rfl (Nat.le_of_ble_eq_true rfl) ?_
  unfold law_copyFrom_c4
  change Lt X d none k_18 _ 0 [some (.ref 31), some (.ref 124)] [] g _
  refine L_s (pc' := 1) rfl rfl ?_
  refine L_s (pc' := 2) rfl rfl ?_
  refine L_gf (pc' := 5) rfl fi_124_0 rfl ?_
  refine L_pf (pc' := 8) rfl sh_31 (by decide) rfl rfl ?_
  refine L_let fun g1 _ => ?_
  refine L_s (pc' := 9) rfl rfl ?_
  refine L_gf (pc' := 12) rfl fr_124_1 rfl ?_
  refine L_s (pc' := 13) rfl rfl ?_
  refine L_gf (pc' := 16) rfl fr_31_1 rfl ?_
  refine L_cv (pc' := 19) (as := [.ref 125, .ref 32]) (rest := []) rfl rfl (e_x_copyBytes_c9 (by omega) _) rfl fun g2 => ?_
  refine L_s (pc' := 20) rfl rfl ?_
  refine L_s (pc' := 21) rfl rfl ?_
  refine L_gf (pc' := 24) rfl fi_124_2 rfl ?_
  refine L_pf (pc' := 27) rfl sh_31 (by decide) rfl rfl ?_
  refine L_let fun g3 _ => ?_
  refine L_s (pc' := 28) rfl rfl ?_
  refine L_s (pc' := 29) rfl rfl ?_
  refine L_gf (pc' := 32) rfl fi_124_3 rfl ?_
  refine L_pf (pc' := 35) rfl sh_31 (by decide) rfl rfl ?_
  refine L_let fun g4 _ => ?_
  refine L_s (pc' := 36) rfl rfl ?_
  refine L_gf (pc' := 39) rfl fr_31_4 rfl ?_
  refine L_s (pc' := 40) rfl rfl ?_
  refine L_gf (pc' := 43) rfl fr_124_4 rfl ?_
  refine L_cv (pc' := 46) (as := [.ref 33, .ref 126]) (rest := []) rfl rfl (e_lines_copyFrom_c5 (by omega) _) rfl fun g5 => ?_
  refine L_s (pc' := 47) rfl rfl ?_
  refine L_gf (pc' := 50) rfl fr_124_5 rfl ?_
  refine L_s (pc' := 51) rfl rfl ?_
  refine L_gf (pc' := 54) rfl fr_31_5 rfl ?_
  refine L_cv (pc' := 57) (as := [.ref 134, .ref 41]) (rest := []) rfl rfl (e_x_copyFlags_c15 (by omega) _) rfl fun g6 => ?_
  exact L_ret rfl rfl rfl
def x_copyInts_c168  (g : Sg) : Option (Sg) :=
  lt1 (cp2 g 136 0 43 0 (Int32.toNatClampNeg 150)) (fun g1 => (some g1))
theorem e_x_copyInts_c168 {X : Xx} {d : Nat} (hd : 1 ≤ d)  (g : Sg) : ∀ r, x_copyInts_c168  g = some r → EvM zft mtl X d 145 [.ref 136, .ref 43] (SHF, g) ((fun r : Sg => ((none, (SHF, r)) : Out)) r) := by
  obtain ⟨d, rfl⟩ : ∃ d0, d = d0 + 1 := ⟨d - 1, by omega⟩
  have hd : 0 ≤ d := by omega
  refine E_in (f := (fun r : Sg => ((none, (SHF, r)) : Out))) rfl (Nat.le_of_ble_eq_true rfl) ?_
  unfold x_copyInts_c168
  change Lt X d none k_145 _ 0 [some (.ref 136), some (.ref 43)] [] g _
  refine L_s (pc' := 1) rfl rfl ?_
  refine L_ic (pc' := 2) rfl q1_0 rfl ?_
  refine L_s (pc' := 3) rfl rfl ?_
  refine L_ic (pc' := 4) rfl q1_0 rfl ?_
  refine L_s (pc' := 5) rfl rfl ?_
  refine L_s (pc' := 6) (st' := [.int 150, .int 0, .ref 43, .int 0, .ref 136]) rfl rfl ?_
  refine L_s (pc' := 7) rfl rfl ?_
  refine L_s (pc' := 8) (st' := [.int 150, .int 150, .int 0, .ref 43, .int 0, .ref 136]) rfl rfl ?_
  refine L_s (pc' := 11) rfl rfl ?_
  refine L_e (b := 150) (by decide) ?_
  refine L_cp (pc' := 14) rfl sh_136 sh_43 (by decide) (by decide) (by decide) (by decide) rfl rfl ?_
  refine L_let fun g1 _ => ?_
  exact L_ret rfl rfl rfl
def x_copyInts_c169  (g : Sg) : Option (Sg) :=
  lt1 (cp2 g 137 0 44 0 (Int32.toNatClampNeg 150)) (fun g1 => (some g1))
theorem e_x_copyInts_c169 {X : Xx} {d : Nat} (hd : 1 ≤ d)  (g : Sg) : ∀ r, x_copyInts_c169  g = some r → EvM zft mtl X d 145 [.ref 137, .ref 44] (SHF, g) ((fun r : Sg => ((none, (SHF, r)) : Out)) r) := by
  obtain ⟨d, rfl⟩ : ∃ d0, d = d0 + 1 := ⟨d - 1, by omega⟩
  have hd : 0 ≤ d := by omega
  refine E_in (f := (fun r : Sg => ((none, (SHF, r)) : Out))) rfl (Nat.le_of_ble_eq_true rfl) ?_
  unfold x_copyInts_c169
  change Lt X d none k_145 _ 0 [some (.ref 137), some (.ref 44)] [] g _
  refine L_s (pc' := 1) rfl rfl ?_
  refine L_ic (pc' := 2) rfl q1_0 rfl ?_
  refine L_s (pc' := 3) rfl rfl ?_
  refine L_ic (pc' := 4) rfl q1_0 rfl ?_
  refine L_s (pc' := 5) rfl rfl ?_
  refine L_s (pc' := 6) (st' := [.int 150, .int 0, .ref 44, .int 0, .ref 137]) rfl rfl ?_
  refine L_s (pc' := 7) rfl rfl ?_
  refine L_s (pc' := 8) (st' := [.int 150, .int 150, .int 0, .ref 44, .int 0, .ref 137]) rfl rfl ?_
  refine L_s (pc' := 11) rfl rfl ?_
  refine L_e (b := 150) (by decide) ?_
  refine L_cp (pc' := 14) rfl sh_137 sh_44 (by decide) (by decide) (by decide) (by decide) rfl rfl ?_
  refine L_let fun g1 _ => ?_
  exact L_ret rfl rfl rfl
def x_copyInts_c170  (g : Sg) : Option (Sg) :=
  lt1 (cp2 g 138 0 45 0 (Int32.toNatClampNeg 150)) (fun g1 => (some g1))
theorem e_x_copyInts_c170 {X : Xx} {d : Nat} (hd : 1 ≤ d)  (g : Sg) : ∀ r, x_copyInts_c170  g = some r → EvM zft mtl X d 145 [.ref 138, .ref 45] (SHF, g) ((fun r : Sg => ((none, (SHF, r)) : Out)) r) := by
  obtain ⟨d, rfl⟩ : ∃ d0, d = d0 + 1 := ⟨d - 1, by omega⟩
  have hd : 0 ≤ d := by omega
  refine E_in (f := (fun r : Sg => ((none, (SHF, r)) : Out))) rfl (Nat.le_of_ble_eq_true rfl) ?_
  unfold x_copyInts_c170
  change Lt X d none k_145 _ 0 [some (.ref 138), some (.ref 45)] [] g _
  refine L_s (pc' := 1) rfl rfl ?_
  refine L_ic (pc' := 2) rfl q1_0 rfl ?_
  refine L_s (pc' := 3) rfl rfl ?_
  refine L_ic (pc' := 4) rfl q1_0 rfl ?_
  refine L_s (pc' := 5) rfl rfl ?_
  refine L_s (pc' := 6) (st' := [.int 150, .int 0, .ref 45, .int 0, .ref 138]) rfl rfl ?_
  refine L_s (pc' := 7) rfl rfl ?_
  refine L_s (pc' := 8) (st' := [.int 150, .int 150, .int 0, .ref 45, .int 0, .ref 138]) rfl rfl ?_
  refine L_s (pc' := 11) rfl rfl ?_
  refine L_e (b := 150) (by decide) ?_
  refine L_cp (pc' := 14) rfl sh_138 sh_45 (by decide) (by decide) (by decide) (by decide) rfl rfl ?_
  refine L_let fun g1 _ => ?_
  exact L_ret rfl rfl rfl
def x_copyInts_c171  (g : Sg) : Option (Sg) :=
  lt1 (cp2 g 139 0 46 0 (Int32.toNatClampNeg 150)) (fun g1 => (some g1))
theorem e_x_copyInts_c171 {X : Xx} {d : Nat} (hd : 1 ≤ d)  (g : Sg) : ∀ r, x_copyInts_c171  g = some r → EvM zft mtl X d 145 [.ref 139, .ref 46] (SHF, g) ((fun r : Sg => ((none, (SHF, r)) : Out)) r) := by
  obtain ⟨d, rfl⟩ : ∃ d0, d = d0 + 1 := ⟨d - 1, by omega⟩
  have hd : 0 ≤ d := by omega
  refine E_in (f := (fun r : Sg => ((none, (SHF, r)) : Out))) rfl (Nat.le_of_ble_eq_true rfl) ?_
  unfold x_copyInts_c171
  change Lt X d none k_145 _ 0 [some (.ref 139), some (.ref 46)] [] g _
  refine L_s (pc' := 1) rfl rfl ?_
  refine L_ic (pc' := 2) rfl q1_0 rfl ?_
  refine L_s (pc' := 3) rfl rfl ?_
  refine L_ic (pc' := 4) rfl q1_0 rfl ?_
  refine L_s (pc' := 5) rfl rfl ?_
  refine L_s (pc' := 6) (st' := [.int 150, .int 0, .ref 46, .int 0, .ref 139]) rfl rfl ?_
  refine L_s (pc' := 7) rfl rfl ?_
  refine L_s (pc' := 8) (st' := [.int 150, .int 150, .int 0, .ref 46, .int 0, .ref 139]) rfl rfl ?_
  refine L_s (pc' := 11) rfl rfl ?_
  refine L_e (b := 150) (by decide) ?_
  refine L_cp (pc' := 14) rfl sh_139 sh_46 (by decide) (by decide) (by decide) (by decide) rfl rfl ?_
  refine L_let fun g1 _ => ?_
  exact L_ret rfl rfl rfl
def gauges_copyFrom_c4  (g : Sg) : Option (Sg) :=
  lt1 (up2 g 42 0 (g 135 0)) (fun g1 => Option.bind (x_copyInts_c168 g1) (fun g2 => Option.bind (x_copyInts_c169 g2) (fun g3 => Option.bind (x_copyInts_c170 g3) (fun g4 => Option.bind (x_copyInts_c171 g4) (fun g5 => (some g5))))))
theorem e_gauges_copyFrom_c4 {X : Xx} {d : Nat} (hd : 2 ≤ d)  (g : Sg) : ∀ r, gauges_copyFrom_c4  g = some r → EvM zft mtl X d 13 [.ref 42, .ref 135] (SHF, g) ((fun r : Sg => ((none, (SHF, r)) : Out)) r) := by
  obtain ⟨d, rfl⟩ : ∃ d0, d = d0 + 1 := ⟨d - 1, by omega⟩
  have hd : 1 ≤ d := by omega
  refine E_in (f := (fun r : Sg => ((none, (SHF, r)) : Out))) rfl (Nat.le_of_ble_eq_true rfl) ?_
  unfold gauges_copyFrom_c4
  change Lt X d none k_13 _ 0 [some (.ref 42), some (.ref 135)] [] g _
  refine L_s (pc' := 1) rfl rfl ?_
  refine L_s (pc' := 2) rfl rfl ?_
  refine L_gf (pc' := 5) rfl fi_135_0 rfl ?_
  refine L_pf (pc' := 8) rfl sh_42 (by decide) rfl rfl ?_
  refine L_let fun g1 _ => ?_
  refine L_s (pc' := 9) rfl rfl ?_
  refine L_gf (pc' := 12) rfl fr_135_1 rfl ?_
  refine L_s (pc' := 13) rfl rfl ?_
  refine L_gf (pc' := 16) rfl fr_42_1 rfl ?_
  refine L_cv (pc' := 19) (as := [.ref 136, .ref 43]) (rest := []) rfl rfl (e_x_copyInts_c168 (by omega) _) rfl fun g2 => ?_
  refine L_s (pc' := 20) rfl rfl ?_
  refine L_gf (pc' := 23) rfl fr_135_2 rfl ?_
  refine L_s (pc' := 24) rfl rfl ?_
  refine L_gf (pc' := 27) rfl fr_42_2 rfl ?_
  refine L_cv (pc' := 30) (as := [.ref 137, .ref 44]) (rest := []) rfl rfl (e_x_copyInts_c169 (by omega) _) rfl fun g3 => ?_
  refine L_s (pc' := 31) rfl rfl ?_
  refine L_gf (pc' := 34) rfl fr_135_3 rfl ?_
  refine L_s (pc' := 35) rfl rfl ?_
  refine L_gf (pc' := 38) rfl fr_42_3 rfl ?_
  refine L_cv (pc' := 41) (as := [.ref 138, .ref 45]) (rest := []) rfl rfl (e_x_copyInts_c170 (by omega) _) rfl fun g4 => ?_
  refine L_s (pc' := 42) rfl rfl ?_
  refine L_gf (pc' := 45) rfl fr_135_4 rfl ?_
  refine L_s (pc' := 46) rfl rfl ?_
  refine L_gf (pc' := 49) rfl fr_42_4 rfl ?_
  refine L_cv (pc' := 52) (as := [.ref 139, .ref 46]) (rest := []) rfl rfl (e_x_copyInts_c171 (by omega) _) rfl fun g5 => ?_
  exact L_ret rfl rfl rfl
def told_copyFrom_c4  (g : Sg) : Option (Sg) :=
  Option.bind (net_copyFrom_c4 g) (fun g1 => Option.bind (rights_copyFrom_c4 g1) (fun g2 => Option.bind (law_copyFrom_c4 g2) (fun g3 => Option.bind (gauges_copyFrom_c4 g3) (fun g4 => (some g4)))))
theorem e_told_copyFrom_c4 {X : Xx} {d : Nat} (hd : 4 ≤ d)  (g : Sg) : ∀ r, told_copyFrom_c4  g = some r → EvM zft mtl X d 88 [.ref 1, .ref 94] (SHF, g) ((fun r : Sg => ((none, (SHF, r)) : Out)) r) := by
  obtain ⟨d, rfl⟩ : ∃ d0, d = d0 + 1 := ⟨d - 1, by omega⟩
  have hd : 3 ≤ d := by omega
  refine E_in (f := (fun r : Sg => ((none, (SHF, r)) : Out))) rfl (Nat.le_of_ble_eq_true rfl) ?_
  unfold told_copyFrom_c4
  change Lt X d none k_88 _ 0 [some (.ref 1), some (.ref 94)] [] g _
  refine L_s (pc' := 1) rfl rfl ?_
  refine L_gf (pc' := 4) rfl fr_1_0 rfl ?_
  refine L_s (pc' := 5) rfl rfl ?_
  refine L_gf (pc' := 8) rfl fr_94_0 rfl ?_
  refine L_cv (pc' := 11) (as := [.ref 2, .ref 95]) (rest := []) rfl rfl (e_net_copyFrom_c4 (by omega) _) rfl fun g1 => ?_
  refine L_s (pc' := 12) rfl rfl ?_
  refine L_gf (pc' := 15) rfl fr_1_1 rfl ?_
  refine L_s (pc' := 16) rfl rfl ?_
  refine L_gf (pc' := 19) rfl fr_94_1 rfl ?_
  refine L_cv (pc' := 22) (as := [.ref 22, .ref 115]) (rest := []) rfl rfl (e_rights_copyFrom_c4 (by omega) _) rfl fun g2 => ?_
  refine L_s (pc' := 23) rfl rfl ?_
  refine L_gf (pc' := 26) rfl fr_1_2 rfl ?_
  refine L_s (pc' := 27) rfl rfl ?_
  refine L_gf (pc' := 30) rfl fr_94_2 rfl ?_
  refine L_cv (pc' := 33) (as := [.ref 31, .ref 124]) (rest := []) rfl rfl (e_law_copyFrom_c4 (by omega) _) rfl fun g3 => ?_
  refine L_s (pc' := 34) rfl rfl ?_
  refine L_gf (pc' := 37) rfl fr_1_3 rfl ?_
  refine L_s (pc' := 38) rfl rfl ?_
  refine L_gf (pc' := 41) rfl fr_94_3 rfl ?_
  refine L_cv (pc' := 44) (as := [.ref 42, .ref 135]) (rest := []) rfl rfl (e_gauges_copyFrom_c4 (by omega) _) rfl fun g4 => ?_
  exact L_ret rfl rfl rfl
def x_copyInts_c172  (g : Sg) : Option (Sg) :=
  lt1 (cp2 g 142 0 3 0 (Int32.toNatClampNeg 10)) (fun g1 => (some g1))
theorem e_x_copyInts_c172 {X : Xx} {d : Nat} (hd : 1 ≤ d)  (g : Sg) : ∀ r, x_copyInts_c172  g = some r → EvM zft mtl X d 145 [.ref 142, .ref 3] (SHF, g) ((fun r : Sg => ((none, (SHF, r)) : Out)) r) := by
  obtain ⟨d, rfl⟩ : ∃ d0, d = d0 + 1 := ⟨d - 1, by omega⟩
  have hd : 0 ≤ d := by omega
  refine E_in (f := (fun r : Sg => ((none, (SHF, r)) : Out))) rfl (Nat.le_of_ble_eq_true rfl) ?_
  unfold x_copyInts_c172
  change Lt X d none k_145 _ 0 [some (.ref 142), some (.ref 3)] [] g _
  refine L_s (pc' := 1) rfl rfl ?_
  refine L_ic (pc' := 2) rfl q1_0 rfl ?_
  refine L_s (pc' := 3) rfl rfl ?_
  refine L_ic (pc' := 4) rfl q1_0 rfl ?_
  refine L_s (pc' := 5) rfl rfl ?_
  refine L_s (pc' := 6) (st' := [.int 10, .int 0, .ref 3, .int 0, .ref 142]) rfl rfl ?_
  refine L_s (pc' := 7) rfl rfl ?_
  refine L_s (pc' := 8) (st' := [.int 10, .int 10, .int 0, .ref 3, .int 0, .ref 142]) rfl rfl ?_
  refine L_s (pc' := 11) rfl rfl ?_
  refine L_e (b := 10) (by decide) ?_
  refine L_cp (pc' := 14) rfl sh_142 sh_3 (by decide) (by decide) (by decide) (by decide) rfl rfl ?_
  refine L_let fun g1 _ => ?_
  exact L_ret rfl rfl rfl
def x_copyInts_c173  (g : Sg) : Option (Sg) :=
  lt1 (cp2 g 143 0 4 0 (Int32.toNatClampNeg 10)) (fun g1 => (some g1))
theorem e_x_copyInts_c173 {X : Xx} {d : Nat} (hd : 1 ≤ d)  (g : Sg) : ∀ r, x_copyInts_c173  g = some r → EvM zft mtl X d 145 [.ref 143, .ref 4] (SHF, g) ((fun r : Sg => ((none, (SHF, r)) : Out)) r) := by
  obtain ⟨d, rfl⟩ : ∃ d0, d = d0 + 1 := ⟨d - 1, by omega⟩
  have hd : 0 ≤ d := by omega
  refine E_in (f := (fun r : Sg => ((none, (SHF, r)) : Out))) rfl (Nat.le_of_ble_eq_true rfl) ?_
  unfold x_copyInts_c173
  change Lt X d none k_145 _ 0 [some (.ref 143), some (.ref 4)] [] g _
  refine L_s (pc' := 1) rfl rfl ?_
  refine L_ic (pc' := 2) rfl q1_0 rfl ?_
  refine L_s (pc' := 3) rfl rfl ?_
  refine L_ic (pc' := 4) rfl q1_0 rfl ?_
  refine L_s (pc' := 5) rfl rfl ?_
  refine L_s (pc' := 6) (st' := [.int 10, .int 0, .ref 4, .int 0, .ref 143]) rfl rfl ?_
  refine L_s (pc' := 7) rfl rfl ?_
  refine L_s (pc' := 8) (st' := [.int 10, .int 10, .int 0, .ref 4, .int 0, .ref 143]) rfl rfl ?_
  refine L_s (pc' := 11) rfl rfl ?_
  refine L_e (b := 10) (by decide) ?_
  refine L_cp (pc' := 14) rfl sh_143 sh_4 (by decide) (by decide) (by decide) (by decide) rfl rfl ?_
  refine L_let fun g1 _ => ?_
  exact L_ret rfl rfl rfl
def x_copyInts_c174  (g : Sg) : Option (Sg) :=
  lt1 (cp2 g 144 0 5 0 (Int32.toNatClampNeg 10)) (fun g1 => (some g1))
theorem e_x_copyInts_c174 {X : Xx} {d : Nat} (hd : 1 ≤ d)  (g : Sg) : ∀ r, x_copyInts_c174  g = some r → EvM zft mtl X d 145 [.ref 144, .ref 5] (SHF, g) ((fun r : Sg => ((none, (SHF, r)) : Out)) r) := by
  obtain ⟨d, rfl⟩ : ∃ d0, d = d0 + 1 := ⟨d - 1, by omega⟩
  have hd : 0 ≤ d := by omega
  refine E_in (f := (fun r : Sg => ((none, (SHF, r)) : Out))) rfl (Nat.le_of_ble_eq_true rfl) ?_
  unfold x_copyInts_c174
  change Lt X d none k_145 _ 0 [some (.ref 144), some (.ref 5)] [] g _
  refine L_s (pc' := 1) rfl rfl ?_
  refine L_ic (pc' := 2) rfl q1_0 rfl ?_
  refine L_s (pc' := 3) rfl rfl ?_
  refine L_ic (pc' := 4) rfl q1_0 rfl ?_
  refine L_s (pc' := 5) rfl rfl ?_
  refine L_s (pc' := 6) (st' := [.int 10, .int 0, .ref 5, .int 0, .ref 144]) rfl rfl ?_
  refine L_s (pc' := 7) rfl rfl ?_
  refine L_s (pc' := 8) (st' := [.int 10, .int 10, .int 0, .ref 5, .int 0, .ref 144]) rfl rfl ?_
  refine L_s (pc' := 11) rfl rfl ?_
  refine L_e (b := 10) (by decide) ?_
  refine L_cp (pc' := 14) rfl sh_144 sh_5 (by decide) (by decide) (by decide) (by decide) rfl rfl ?_
  refine L_let fun g1 _ => ?_
  exact L_ret rfl rfl rfl
def x_copyInts_c175  (g : Sg) : Option (Sg) :=
  lt1 (cp2 g 148 0 9 0 (Int32.toNatClampNeg 14)) (fun g1 => (some g1))
theorem e_x_copyInts_c175 {X : Xx} {d : Nat} (hd : 1 ≤ d)  (g : Sg) : ∀ r, x_copyInts_c175  g = some r → EvM zft mtl X d 145 [.ref 148, .ref 9] (SHF, g) ((fun r : Sg => ((none, (SHF, r)) : Out)) r) := by
  obtain ⟨d, rfl⟩ : ∃ d0, d = d0 + 1 := ⟨d - 1, by omega⟩
  have hd : 0 ≤ d := by omega
  refine E_in (f := (fun r : Sg => ((none, (SHF, r)) : Out))) rfl (Nat.le_of_ble_eq_true rfl) ?_
  unfold x_copyInts_c175
  change Lt X d none k_145 _ 0 [some (.ref 148), some (.ref 9)] [] g _
  refine L_s (pc' := 1) rfl rfl ?_
  refine L_ic (pc' := 2) rfl q1_0 rfl ?_
  refine L_s (pc' := 3) rfl rfl ?_
  refine L_ic (pc' := 4) rfl q1_0 rfl ?_
  refine L_s (pc' := 5) rfl rfl ?_
  refine L_s (pc' := 6) (st' := [.int 14, .int 0, .ref 9, .int 0, .ref 148]) rfl rfl ?_
  refine L_s (pc' := 7) rfl rfl ?_
  refine L_s (pc' := 8) (st' := [.int 14, .int 14, .int 0, .ref 9, .int 0, .ref 148]) rfl rfl ?_
  refine L_s (pc' := 11) rfl rfl ?_
  refine L_e (b := 14) (by decide) ?_
  refine L_cp (pc' := 14) rfl sh_148 sh_9 (by decide) (by decide) (by decide) (by decide) rfl rfl ?_
  refine L_let fun g1 _ => ?_
  exact L_ret rfl rfl rfl
def x_copyInts_c176  (g : Sg) : Option (Sg) :=
  lt1 (cp2 g 149 0 10 0 (Int32.toNatClampNeg 14)) (fun g1 => (some g1))
theorem e_x_copyInts_c176 {X : Xx} {d : Nat} (hd : 1 ≤ d)  (g : Sg) : ∀ r, x_copyInts_c176  g = some r → EvM zft mtl X d 145 [.ref 149, .ref 10] (SHF, g) ((fun r : Sg => ((none, (SHF, r)) : Out)) r) := by
  obtain ⟨d, rfl⟩ : ∃ d0, d = d0 + 1 := ⟨d - 1, by omega⟩
  have hd : 0 ≤ d := by omega
  refine E_in (f := (fun r : Sg => ((none, (SHF, r)) : Out))) rfl (Nat.le_of_ble_eq_true rfl) ?_
  unfold x_copyInts_c176
  change Lt X d none k_145 _ 0 [some (.ref 149), some (.ref 10)] [] g _
  refine L_s (pc' := 1) rfl rfl ?_
  refine L_ic (pc' := 2) rfl q1_0 rfl ?_
  refine L_s (pc' := 3) rfl rfl ?_
  refine L_ic (pc' := 4) rfl q1_0 rfl ?_
  refine L_s (pc' := 5) rfl rfl ?_
  refine L_s (pc' := 6) (st' := [.int 14, .int 0, .ref 10, .int 0, .ref 149]) rfl rfl ?_
  refine L_s (pc' := 7) rfl rfl ?_
  refine L_s (pc' := 8) (st' := [.int 14, .int 14, .int 0, .ref 10, .int 0, .ref 149]) rfl rfl ?_
  refine L_s (pc' := 11) rfl rfl ?_
  refine L_e (b := 14) (by decide) ?_
  refine L_cp (pc' := 14) rfl sh_149 sh_10 (by decide) (by decide) (by decide) (by decide) rfl rfl ?_
  refine L_let fun g1 _ => ?_
  exact L_ret rfl rfl rfl
def x_copyInts_c177  (g : Sg) : Option (Sg) :=
  lt1 (cp2 g 150 0 11 0 (Int32.toNatClampNeg 14)) (fun g1 => (some g1))
theorem e_x_copyInts_c177 {X : Xx} {d : Nat} (hd : 1 ≤ d)  (g : Sg) : ∀ r, x_copyInts_c177  g = some r → EvM zft mtl X d 145 [.ref 150, .ref 11] (SHF, g) ((fun r : Sg => ((none, (SHF, r)) : Out)) r) := by
  obtain ⟨d, rfl⟩ : ∃ d0, d = d0 + 1 := ⟨d - 1, by omega⟩
  have hd : 0 ≤ d := by omega
  refine E_in (f := (fun r : Sg => ((none, (SHF, r)) : Out))) rfl (Nat.le_of_ble_eq_true rfl) ?_
  unfold x_copyInts_c177
  change Lt X d none k_145 _ 0 [some (.ref 150), some (.ref 11)] [] g _
  refine L_s (pc' := 1) rfl rfl ?_
  refine L_ic (pc' := 2) rfl q1_0 rfl ?_
  refine L_s (pc' := 3) rfl rfl ?_
  refine L_ic (pc' := 4) rfl q1_0 rfl ?_
  refine L_s (pc' := 5) rfl rfl ?_
  refine L_s (pc' := 6) (st' := [.int 14, .int 0, .ref 11, .int 0, .ref 150]) rfl rfl ?_
  refine L_s (pc' := 7) rfl rfl ?_
  refine L_s (pc' := 8) (st' := [.int 14, .int 14, .int 0, .ref 11, .int 0, .ref 150]) rfl rfl ?_
  refine L_s (pc' := 11) rfl rfl ?_
  refine L_e (b := 14) (by decide) ?_
  refine L_cp (pc' := 14) rfl sh_150 sh_11 (by decide) (by decide) (by decide) (by decide) rfl rfl ?_
  refine L_let fun g1 _ => ?_
  exact L_ret rfl rfl rfl
def x_copyInts_c178  (g : Sg) : Option (Sg) :=
  lt1 (cp2 g 151 0 12 0 (Int32.toNatClampNeg 14)) (fun g1 => (some g1))
theorem e_x_copyInts_c178 {X : Xx} {d : Nat} (hd : 1 ≤ d)  (g : Sg) : ∀ r, x_copyInts_c178  g = some r → EvM zft mtl X d 145 [.ref 151, .ref 12] (SHF, g) ((fun r : Sg => ((none, (SHF, r)) : Out)) r) := by
  obtain ⟨d, rfl⟩ : ∃ d0, d = d0 + 1 := ⟨d - 1, by omega⟩
  have hd : 0 ≤ d := by omega
  refine E_in (f := (fun r : Sg => ((none, (SHF, r)) : Out))) rfl (Nat.le_of_ble_eq_true rfl) ?_
  unfold x_copyInts_c178
  change Lt X d none k_145 _ 0 [some (.ref 151), some (.ref 12)] [] g _
  refine L_s (pc' := 1) rfl rfl ?_
  refine L_ic (pc' := 2) rfl q1_0 rfl ?_
  refine L_s (pc' := 3) rfl rfl ?_
  refine L_ic (pc' := 4) rfl q1_0 rfl ?_
  refine L_s (pc' := 5) rfl rfl ?_
  refine L_s (pc' := 6) (st' := [.int 14, .int 0, .ref 12, .int 0, .ref 151]) rfl rfl ?_
  refine L_s (pc' := 7) rfl rfl ?_
  refine L_s (pc' := 8) (st' := [.int 14, .int 14, .int 0, .ref 12, .int 0, .ref 151]) rfl rfl ?_
  refine L_s (pc' := 11) rfl rfl ?_
  refine L_e (b := 14) (by decide) ?_
  refine L_cp (pc' := 14) rfl sh_151 sh_12 (by decide) (by decide) (by decide) (by decide) rfl rfl ?_
  refine L_let fun g1 _ => ?_
  exact L_ret rfl rfl rfl
def x_copyInts_c179  (g : Sg) : Option (Sg) :=
  lt1 (cp2 g 152 0 13 0 (Int32.toNatClampNeg 14)) (fun g1 => (some g1))
theorem e_x_copyInts_c179 {X : Xx} {d : Nat} (hd : 1 ≤ d)  (g : Sg) : ∀ r, x_copyInts_c179  g = some r → EvM zft mtl X d 145 [.ref 152, .ref 13] (SHF, g) ((fun r : Sg => ((none, (SHF, r)) : Out)) r) := by
  obtain ⟨d, rfl⟩ : ∃ d0, d = d0 + 1 := ⟨d - 1, by omega⟩
  have hd : 0 ≤ d := by omega
  refine E_in (f := (fun r : Sg => ((none, (SHF, r)) : Out))) rfl (Nat.le_of_ble_eq_true rfl) ?_
  unfold x_copyInts_c179
  change Lt X d none k_145 _ 0 [some (.ref 152), some (.ref 13)] [] g _
  refine L_s (pc' := 1) rfl rfl ?_
  refine L_ic (pc' := 2) rfl q1_0 rfl ?_
  refine L_s (pc' := 3) rfl rfl ?_
  refine L_ic (pc' := 4) rfl q1_0 rfl ?_
  refine L_s (pc' := 5) rfl rfl ?_
  refine L_s (pc' := 6) (st' := [.int 14, .int 0, .ref 13, .int 0, .ref 152]) rfl rfl ?_
  refine L_s (pc' := 7) rfl rfl ?_
  refine L_s (pc' := 8) (st' := [.int 14, .int 14, .int 0, .ref 13, .int 0, .ref 152]) rfl rfl ?_
  refine L_s (pc' := 11) rfl rfl ?_
  refine L_e (b := 14) (by decide) ?_
  refine L_cp (pc' := 14) rfl sh_152 sh_13 (by decide) (by decide) (by decide) (by decide) rfl rfl ?_
  refine L_let fun g1 _ => ?_
  exact L_ret rfl rfl rfl
def x_copyInts_c180  (g : Sg) : Option (Sg) :=
  lt1 (cp2 g 153 0 14 0 (Int32.toNatClampNeg 14)) (fun g1 => (some g1))
theorem e_x_copyInts_c180 {X : Xx} {d : Nat} (hd : 1 ≤ d)  (g : Sg) : ∀ r, x_copyInts_c180  g = some r → EvM zft mtl X d 145 [.ref 153, .ref 14] (SHF, g) ((fun r : Sg => ((none, (SHF, r)) : Out)) r) := by
  obtain ⟨d, rfl⟩ : ∃ d0, d = d0 + 1 := ⟨d - 1, by omega⟩
  have hd : 0 ≤ d := by omega
  refine E_in (f := (fun r : Sg => ((none, (SHF, r)) : Out))) rfl (Nat.le_of_ble_eq_true rfl) ?_
  unfold x_copyInts_c180
  change Lt X d none k_145 _ 0 [some (.ref 153), some (.ref 14)] [] g _
  refine L_s (pc' := 1) rfl rfl ?_
  refine L_ic (pc' := 2) rfl q1_0 rfl ?_
  refine L_s (pc' := 3) rfl rfl ?_
  refine L_ic (pc' := 4) rfl q1_0 rfl ?_
  refine L_s (pc' := 5) rfl rfl ?_
  refine L_s (pc' := 6) (st' := [.int 14, .int 0, .ref 14, .int 0, .ref 153]) rfl rfl ?_
  refine L_s (pc' := 7) rfl rfl ?_
  refine L_s (pc' := 8) (st' := [.int 14, .int 14, .int 0, .ref 14, .int 0, .ref 153]) rfl rfl ?_
  refine L_s (pc' := 11) rfl rfl ?_
  refine L_e (b := 14) (by decide) ?_
  refine L_cp (pc' := 14) rfl sh_153 sh_14 (by decide) (by decide) (by decide) (by decide) rfl rfl ?_
  refine L_let fun g1 _ => ?_
  exact L_ret rfl rfl rfl
def x_copyFlags_c16  (g : Sg) : Option (Sg) :=
  lt1 (cp2 g 154 0 15 0 (Int32.toNatClampNeg 14)) (fun g1 => (some g1))
theorem e_x_copyFlags_c16 {X : Xx} {d : Nat} (hd : 1 ≤ d)  (g : Sg) : ∀ r, x_copyFlags_c16  g = some r → EvM zft mtl X d 147 [.ref 154, .ref 15] (SHF, g) ((fun r : Sg => ((none, (SHF, r)) : Out)) r) := by
  obtain ⟨d, rfl⟩ : ∃ d0, d = d0 + 1 := ⟨d - 1, by omega⟩
  have hd : 0 ≤ d := by omega
  refine E_in (f := (fun r : Sg => ((none, (SHF, r)) : Out))) rfl (Nat.le_of_ble_eq_true rfl) ?_
  unfold x_copyFlags_c16
  change Lt X d none k_147 _ 0 [some (.ref 154), some (.ref 15)] [] g _
  refine L_s (pc' := 1) rfl rfl ?_
  refine L_ic (pc' := 2) rfl q1_0 rfl ?_
  refine L_s (pc' := 3) rfl rfl ?_
  refine L_ic (pc' := 4) rfl q1_0 rfl ?_
  refine L_s (pc' := 5) rfl rfl ?_
  refine L_s (pc' := 6) (st' := [.int 14, .int 0, .ref 15, .int 0, .ref 154]) rfl rfl ?_
  refine L_s (pc' := 7) rfl rfl ?_
  refine L_s (pc' := 8) (st' := [.int 14, .int 14, .int 0, .ref 15, .int 0, .ref 154]) rfl rfl ?_
  refine L_s (pc' := 11) rfl rfl ?_
  refine L_e (b := 14) (by decide) ?_
  refine L_cp (pc' := 14) rfl sh_154 sh_15 (by decide) (by decide) (by decide) (by decide) rfl rfl ?_
  refine L_let fun g1 _ => ?_
  exact L_ret rfl rfl rfl
def x_copyInts_c181  (g : Sg) : Option (Sg) :=
  lt1 (cp2 g 146 0 7 0 (Int32.toNatClampNeg 10)) (fun g1 => (some g1))
theorem e_x_copyInts_c181 {X : Xx} {d : Nat} (hd : 1 ≤ d)  (g : Sg) : ∀ r, x_copyInts_c181  g = some r → EvM zft mtl X d 145 [.ref 146, .ref 7] (SHF, g) ((fun r : Sg => ((none, (SHF, r)) : Out)) r) := by
  obtain ⟨d, rfl⟩ : ∃ d0, d = d0 + 1 := ⟨d - 1, by omega⟩
  have hd : 0 ≤ d := by omega
  refine E_in (f := (fun r : Sg => ((none, (SHF, r)) : Out))) rfl (Nat.le_of_ble_eq_true rfl) ?_
  unfold x_copyInts_c181
  change Lt X d none k_145 _ 0 [some (.ref 146), some (.ref 7)] [] g _
  refine L_s (pc' := 1) rfl rfl ?_
  refine L_ic (pc' := 2) rfl q1_0 rfl ?_
  refine L_s (pc' := 3) rfl rfl ?_
  refine L_ic (pc' := 4) rfl q1_0 rfl ?_
  refine L_s (pc' := 5) rfl rfl ?_
  refine L_s (pc' := 6) (st' := [.int 10, .int 0, .ref 7, .int 0, .ref 146]) rfl rfl ?_
  refine L_s (pc' := 7) rfl rfl ?_
  refine L_s (pc' := 8) (st' := [.int 10, .int 10, .int 0, .ref 7, .int 0, .ref 146]) rfl rfl ?_
  refine L_s (pc' := 11) rfl rfl ?_
  refine L_e (b := 10) (by decide) ?_
  refine L_cp (pc' := 14) rfl sh_146 sh_7 (by decide) (by decide) (by decide) (by decide) rfl rfl ?_
  refine L_let fun g1 _ => ?_
  exact L_ret rfl rfl rfl
def x_copyInts_c182  (g : Sg) : Option (Sg) :=
  lt1 (cp2 g 156 0 17 0 (Int32.toNatClampNeg 126)) (fun g1 => (some g1))
theorem e_x_copyInts_c182 {X : Xx} {d : Nat} (hd : 1 ≤ d)  (g : Sg) : ∀ r, x_copyInts_c182  g = some r → EvM zft mtl X d 145 [.ref 156, .ref 17] (SHF, g) ((fun r : Sg => ((none, (SHF, r)) : Out)) r) := by
  obtain ⟨d, rfl⟩ : ∃ d0, d = d0 + 1 := ⟨d - 1, by omega⟩
  have hd : 0 ≤ d := by omega
  refine E_in (f := (fun r : Sg => ((none, (SHF, r)) : Out))) rfl (Nat.le_of_ble_eq_true rfl) ?_
  unfold x_copyInts_c182
  change Lt X d none k_145 _ 0 [some (.ref 156), some (.ref 17)] [] g _
  refine L_s (pc' := 1) rfl rfl ?_
  refine L_ic (pc' := 2) rfl q1_0 rfl ?_
  refine L_s (pc' := 3) rfl rfl ?_
  refine L_ic (pc' := 4) rfl q1_0 rfl ?_
  refine L_s (pc' := 5) rfl rfl ?_
  refine L_s (pc' := 6) (st' := [.int 126, .int 0, .ref 17, .int 0, .ref 156]) rfl rfl ?_
  refine L_s (pc' := 7) rfl rfl ?_
  refine L_s (pc' := 8) (st' := [.int 126, .int 126, .int 0, .ref 17, .int 0, .ref 156]) rfl rfl ?_
  refine L_s (pc' := 11) rfl rfl ?_
  refine L_e (b := 126) (by decide) ?_
  refine L_cp (pc' := 14) rfl sh_156 sh_17 (by decide) (by decide) (by decide) (by decide) rfl rfl ?_
  refine L_let fun g1 _ => ?_
  exact L_ret rfl rfl rfl
def x_copyInts_c183  (g : Sg) : Option (Sg) :=
  lt1 (cp2 g 147 0 8 0 (Int32.toNatClampNeg 10)) (fun g1 => (some g1))
theorem e_x_copyInts_c183 {X : Xx} {d : Nat} (hd : 1 ≤ d)  (g : Sg) : ∀ r, x_copyInts_c183  g = some r → EvM zft mtl X d 145 [.ref 147, .ref 8] (SHF, g) ((fun r : Sg => ((none, (SHF, r)) : Out)) r) := by
  obtain ⟨d, rfl⟩ : ∃ d0, d = d0 + 1 := ⟨d - 1, by omega⟩
  have hd : 0 ≤ d := by omega
  refine E_in (f := (fun r : Sg => ((none, (SHF, r)) : Out))) rfl (Nat.le_of_ble_eq_true rfl) ?_
  unfold x_copyInts_c183
  change Lt X d none k_145 _ 0 [some (.ref 147), some (.ref 8)] [] g _
  refine L_s (pc' := 1) rfl rfl ?_
  refine L_ic (pc' := 2) rfl q1_0 rfl ?_
  refine L_s (pc' := 3) rfl rfl ?_
  refine L_ic (pc' := 4) rfl q1_0 rfl ?_
  refine L_s (pc' := 5) rfl rfl ?_
  refine L_s (pc' := 6) (st' := [.int 10, .int 0, .ref 8, .int 0, .ref 147]) rfl rfl ?_
  refine L_s (pc' := 7) rfl rfl ?_
  refine L_s (pc' := 8) (st' := [.int 10, .int 10, .int 0, .ref 8, .int 0, .ref 147]) rfl rfl ?_
  refine L_s (pc' := 11) rfl rfl ?_
  refine L_e (b := 10) (by decide) ?_
  refine L_cp (pc' := 14) rfl sh_147 sh_8 (by decide) (by decide) (by decide) (by decide) rfl rfl ?_
  refine L_let fun g1 _ => ?_
  exact L_ret rfl rfl rfl
def x_copyInts_c184  (g : Sg) : Option (Sg) :=
  lt1 (cp2 g 157 0 18 0 (Int32.toNatClampNeg 126)) (fun g1 => (some g1))
theorem e_x_copyInts_c184 {X : Xx} {d : Nat} (hd : 1 ≤ d)  (g : Sg) : ∀ r, x_copyInts_c184  g = some r → EvM zft mtl X d 145 [.ref 157, .ref 18] (SHF, g) ((fun r : Sg => ((none, (SHF, r)) : Out)) r) := by
  obtain ⟨d, rfl⟩ : ∃ d0, d = d0 + 1 := ⟨d - 1, by omega⟩
  have hd : 0 ≤ d := by omega
  refine E_in (f := (fun r : Sg => ((none, (SHF, r)) : Out))) rfl (Nat.le_of_ble_eq_true rfl) ?_
  unfold x_copyInts_c184
  change Lt X d none k_145 _ 0 [some (.ref 157), some (.ref 18)] [] g _
  refine L_s (pc' := 1) rfl rfl ?_
  refine L_ic (pc' := 2) rfl q1_0 rfl ?_
  refine L_s (pc' := 3) rfl rfl ?_
  refine L_ic (pc' := 4) rfl q1_0 rfl ?_
  refine L_s (pc' := 5) rfl rfl ?_
  refine L_s (pc' := 6) (st' := [.int 126, .int 0, .ref 18, .int 0, .ref 157]) rfl rfl ?_
  refine L_s (pc' := 7) rfl rfl ?_
  refine L_s (pc' := 8) (st' := [.int 126, .int 126, .int 0, .ref 18, .int 0, .ref 157]) rfl rfl ?_
  refine L_s (pc' := 11) rfl rfl ?_
  refine L_e (b := 126) (by decide) ?_
  refine L_cp (pc' := 14) rfl sh_157 sh_18 (by decide) (by decide) (by decide) (by decide) rfl rfl ?_
  refine L_let fun g1 _ => ?_
  exact L_ret rfl rfl rfl
def x_copyInts_c185  (g : Sg) : Option (Sg) :=
  lt1 (cp2 g 158 0 19 0 (Int32.toNatClampNeg 2)) (fun g1 => (some g1))
theorem e_x_copyInts_c185 {X : Xx} {d : Nat} (hd : 1 ≤ d)  (g : Sg) : ∀ r, x_copyInts_c185  g = some r → EvM zft mtl X d 145 [.ref 158, .ref 19] (SHF, g) ((fun r : Sg => ((none, (SHF, r)) : Out)) r) := by
  obtain ⟨d, rfl⟩ : ∃ d0, d = d0 + 1 := ⟨d - 1, by omega⟩
  have hd : 0 ≤ d := by omega
  refine E_in (f := (fun r : Sg => ((none, (SHF, r)) : Out))) rfl (Nat.le_of_ble_eq_true rfl) ?_
  unfold x_copyInts_c185
  change Lt X d none k_145 _ 0 [some (.ref 158), some (.ref 19)] [] g _
  refine L_s (pc' := 1) rfl rfl ?_
  refine L_ic (pc' := 2) rfl q1_0 rfl ?_
  refine L_s (pc' := 3) rfl rfl ?_
  refine L_ic (pc' := 4) rfl q1_0 rfl ?_
  refine L_s (pc' := 5) rfl rfl ?_
  refine L_s (pc' := 6) (st' := [.int 2, .int 0, .ref 19, .int 0, .ref 158]) rfl rfl ?_
  refine L_s (pc' := 7) rfl rfl ?_
  refine L_s (pc' := 8) (st' := [.int 2, .int 2, .int 0, .ref 19, .int 0, .ref 158]) rfl rfl ?_
  refine L_s (pc' := 11) rfl rfl ?_
  refine L_e (b := 2) (by decide) ?_
  refine L_cp (pc' := 14) rfl sh_158 sh_19 (by decide) (by decide) (by decide) (by decide) rfl rfl ?_
  refine L_let fun g1 _ => ?_
  exact L_ret rfl rfl rfl
def x_copyInts_c186  (g : Sg) : Option (Sg) :=
  lt1 (cp2 g 159 0 20 0 (Int32.toNatClampNeg 2)) (fun g1 => (some g1))
theorem e_x_copyInts_c186 {X : Xx} {d : Nat} (hd : 1 ≤ d)  (g : Sg) : ∀ r, x_copyInts_c186  g = some r → EvM zft mtl X d 145 [.ref 159, .ref 20] (SHF, g) ((fun r : Sg => ((none, (SHF, r)) : Out)) r) := by
  obtain ⟨d, rfl⟩ : ∃ d0, d = d0 + 1 := ⟨d - 1, by omega⟩
  have hd : 0 ≤ d := by omega
  refine E_in (f := (fun r : Sg => ((none, (SHF, r)) : Out))) rfl (Nat.le_of_ble_eq_true rfl) ?_
  unfold x_copyInts_c186
  change Lt X d none k_145 _ 0 [some (.ref 159), some (.ref 20)] [] g _
  refine L_s (pc' := 1) rfl rfl ?_
  refine L_ic (pc' := 2) rfl q1_0 rfl ?_
  refine L_s (pc' := 3) rfl rfl ?_
  refine L_ic (pc' := 4) rfl q1_0 rfl ?_
  refine L_s (pc' := 5) rfl rfl ?_
  refine L_s (pc' := 6) (st' := [.int 2, .int 0, .ref 20, .int 0, .ref 159]) rfl rfl ?_
  refine L_s (pc' := 7) rfl rfl ?_
  refine L_s (pc' := 8) (st' := [.int 2, .int 2, .int 0, .ref 20, .int 0, .ref 159]) rfl rfl ?_
  refine L_s (pc' := 11) rfl rfl ?_
  refine L_e (b := 2) (by decide) ?_
  refine L_cp (pc' := 14) rfl sh_159 sh_20 (by decide) (by decide) (by decide) (by decide) rfl rfl ?_
  refine L_let fun g1 _ => ?_
  exact L_ret rfl rfl rfl
def x_copyInts_c187  (g : Sg) : Option (Sg) :=
  lt1 (cp2 g 160 0 21 0 (Int32.toNatClampNeg 2)) (fun g1 => (some g1))
theorem e_x_copyInts_c187 {X : Xx} {d : Nat} (hd : 1 ≤ d)  (g : Sg) : ∀ r, x_copyInts_c187  g = some r → EvM zft mtl X d 145 [.ref 160, .ref 21] (SHF, g) ((fun r : Sg => ((none, (SHF, r)) : Out)) r) := by
  obtain ⟨d, rfl⟩ : ∃ d0, d = d0 + 1 := ⟨d - 1, by omega⟩
  have hd : 0 ≤ d := by omega
  refine E_in (f := (fun r : Sg => ((none, (SHF, r)) : Out))) rfl (Nat.le_of_ble_eq_true rfl) ?_
  unfold x_copyInts_c187
  change Lt X d none k_145 _ 0 [some (.ref 160), some (.ref 21)] [] g _
  refine L_s (pc' := 1) rfl rfl ?_
  refine L_ic (pc' := 2) rfl q1_0 rfl ?_
  refine L_s (pc' := 3) rfl rfl ?_
  refine L_ic (pc' := 4) rfl q1_0 rfl ?_
  refine L_s (pc' := 5) rfl rfl ?_
  refine L_s (pc' := 6) (st' := [.int 2, .int 0, .ref 21, .int 0, .ref 160]) rfl rfl ?_
  refine L_s (pc' := 7) rfl rfl ?_
  refine L_s (pc' := 8) (st' := [.int 2, .int 2, .int 0, .ref 21, .int 0, .ref 160]) rfl rfl ?_
  refine L_s (pc' := 11) rfl rfl ?_
  refine L_e (b := 2) (by decide) ?_
  refine L_cp (pc' := 14) rfl sh_160 sh_21 (by decide) (by decide) (by decide) (by decide) rfl rfl ?_
  refine L_let fun g1 _ => ?_
  exact L_ret rfl rfl rfl
def net_copyFrom_c5  (g : Sg) : Option (Sg) :=
  lt1 (up2 g 2 0 (g 141 0)) (fun g1 => lt1 (up2 g1 2 1 (g1 141 1)) (fun g2 => lt1 (up2 g2 2 6 (g2 141 6)) (fun g3 => Option.bind (x_copyInts_c172 g3) (fun g4 => Option.bind (x_copyInts_c173 g4) (fun g5 => Option.bind (x_copyInts_c174 g5) (fun g6 => Option.bind (x_copyInts_c175 g6) (fun g7 => Option.bind (x_copyInts_c176 g7) (fun g8 => Option.bind (x_copyInts_c177 g8) (fun g9 => Option.bind (x_copyInts_c178 g9) (fun g10 => Option.bind (x_copyInts_c179 g10) (fun g11 => Option.bind (x_copyInts_c180 g11) (fun g12 => Option.bind (x_copyFlags_c16 g12) (fun g13 => Option.bind (x_copyInts_c181 g13) (fun g14 => Option.bind (x_copyInts_c182 g14) (fun g15 => Option.bind (x_copyInts_c183 g15) (fun g16 => Option.bind (x_copyInts_c184 g16) (fun g17 => Option.bind (x_copyInts_c185 g17) (fun g18 => Option.bind (x_copyInts_c186 g18) (fun g19 => Option.bind (x_copyInts_c187 g19) (fun g20 => (some g20)))))))))))))))))))))
theorem e_net_copyFrom_c5 {X : Xx} {d : Nat} (hd : 2 ≤ d)  (g : Sg) : ∀ r, net_copyFrom_c5  g = some r → EvM zft mtl X d 42 [.ref 2, .ref 141] (SHF, g) ((fun r : Sg => ((none, (SHF, r)) : Out)) r) := by
  obtain ⟨d, rfl⟩ : ∃ d0, d = d0 + 1 := ⟨d - 1, by omega⟩
  have hd : 1 ≤ d := by omega
  refine E_in (f := (fun r : Sg => ((none, (SHF, r)) : Out))) rfl (Nat.le_of_ble_eq_true rfl) ?_
  unfold net_copyFrom_c5
  change Lt X d none k_42 _ 0 [some (.ref 2), some (.ref 141), none] [] g _
  refine L_s (pc' := 1) rfl rfl ?_
  refine L_s (pc' := 2) rfl rfl ?_
  refine L_gf (pc' := 5) rfl fi_141_0 rfl ?_
  refine L_pf (pc' := 8) rfl sh_2 (by decide) rfl rfl ?_
  refine L_let fun g1 _ => ?_
  refine L_s (pc' := 9) rfl rfl ?_
  refine L_s (pc' := 10) rfl rfl ?_
  refine L_gf (pc' := 13) rfl fi_141_1 rfl ?_
  refine L_pf (pc' := 16) rfl sh_2 (by decide) rfl rfl ?_
  refine L_let fun g2 _ => ?_
  refine L_s (pc' := 17) rfl rfl ?_
  refine L_s (pc' := 18) rfl rfl ?_
  refine L_gf (pc' := 21) rfl fi_141_6 rfl ?_
  refine L_pf (pc' := 24) rfl sh_2 (by decide) rfl rfl ?_
  refine L_let fun g3 _ => ?_
  refine L_s (pc' := 25) rfl rfl ?_
  refine L_gf (pc' := 28) rfl fr_141_2 rfl ?_
  refine L_s (pc' := 29) rfl rfl ?_
  refine L_gf (pc' := 32) rfl fr_2_2 rfl ?_
  refine L_cv (pc' := 35) (as := [.ref 142, .ref 3]) (rest := []) rfl rfl (e_x_copyInts_c172 (by omega) _) rfl fun g4 => ?_
  refine L_s (pc' := 36) rfl rfl ?_
  refine L_gf (pc' := 39) rfl fr_141_3 rfl ?_
  refine L_s (pc' := 40) rfl rfl ?_
  refine L_gf (pc' := 43) rfl fr_2_3 rfl ?_
  refine L_cv (pc' := 46) (as := [.ref 143, .ref 4]) (rest := []) rfl rfl (e_x_copyInts_c173 (by omega) _) rfl fun g5 => ?_
  refine L_s (pc' := 47) rfl rfl ?_
  refine L_gf (pc' := 50) rfl fr_141_4 rfl ?_
  refine L_s (pc' := 51) rfl rfl ?_
  refine L_gf (pc' := 54) rfl fr_2_4 rfl ?_
  refine L_cv (pc' := 57) (as := [.ref 144, .ref 5]) (rest := []) rfl rfl (e_x_copyInts_c174 (by omega) _) rfl fun g6 => ?_
  refine L_s (pc' := 58) rfl rfl ?_
  refine L_gf (pc' := 61) rfl fr_141_7 rfl ?_
  refine L_s (pc' := 62) rfl rfl ?_
  refine L_gf (pc' := 65) rfl fr_2_7 rfl ?_
  refine L_cv (pc' := 68) (as := [.ref 148, .ref 9]) (rest := []) rfl rfl (e_x_copyInts_c175 (by omega) _) rfl fun g7 => ?_
  refine L_s (pc' := 69) rfl rfl ?_
  refine L_gf (pc' := 72) rfl fr_141_8 rfl ?_
  refine L_s (pc' := 73) rfl rfl ?_
  refine L_gf (pc' := 76) rfl fr_2_8 rfl ?_
  refine L_cv (pc' := 79) (as := [.ref 149, .ref 10]) (rest := []) rfl rfl (e_x_copyInts_c176 (by omega) _) rfl fun g8 => ?_
  refine L_s (pc' := 80) rfl rfl ?_
  refine L_gf (pc' := 83) rfl fr_141_9 rfl ?_
  refine L_s (pc' := 84) rfl rfl ?_
  refine L_gf (pc' := 87) rfl fr_2_9 rfl ?_
  refine L_cv (pc' := 90) (as := [.ref 150, .ref 11]) (rest := []) rfl rfl (e_x_copyInts_c177 (by omega) _) rfl fun g9 => ?_
  refine L_s (pc' := 91) rfl rfl ?_
  refine L_gf (pc' := 94) rfl fr_141_10 rfl ?_
  refine L_s (pc' := 95) rfl rfl ?_
  refine L_gf (pc' := 98) rfl fr_2_10 rfl ?_
  refine L_cv (pc' := 101) (as := [.ref 151, .ref 12]) (rest := []) rfl rfl (e_x_copyInts_c178 (by omega) _) rfl fun g10 => ?_
  refine L_s (pc' := 102) rfl rfl ?_
  refine L_gf (pc' := 105) rfl fr_141_11 rfl ?_
  refine L_s (pc' := 106) rfl rfl ?_
  refine L_gf (pc' := 109) rfl fr_2_11 rfl ?_
  refine L_cv (pc' := 112) (as := [.ref 152, .ref 13]) (rest := []) rfl rfl (e_x_copyInts_c179 (by omega) _) rfl fun g11 => ?_
  refine L_s (pc' := 113) rfl rfl ?_
  refine L_gf (pc' := 116) rfl fr_141_12 rfl ?_
  refine L_s (pc' := 117) rfl rfl ?_
  refine L_gf (pc' := 120) rfl fr_2_12 rfl ?_
  refine L_cv (pc' := 123) (as := [.ref 153, .ref 14]) (rest := []) rfl rfl (e_x_copyInts_c180 (by omega) _) rfl fun g12 => ?_
  refine L_s (pc' := 124) rfl rfl ?_
  refine L_gf (pc' := 127) rfl fr_141_13 rfl ?_
  refine L_s (pc' := 128) rfl rfl ?_
  refine L_gf (pc' := 131) rfl fr_2_13 rfl ?_
  refine L_cv (pc' := 134) (as := [.ref 154, .ref 15]) (rest := []) rfl rfl (e_x_copyFlags_c16 (by omega) _) rfl fun g13 => ?_
  refine L_ic (pc' := 135) rfl q1_0 rfl ?_
  refine L_s (pc' := 136) (L' := [some (.ref 2), some (.ref 141), some (.int 0)]) rfl rfl ?_
  refine L_s (pc' := 137) rfl rfl ?_
  refine L_ic (pc' := 138) rfl q1_2 rfl ?_
  refine L_bf (c := (2 : Int32) ≤ 0) (t := 177) (n := 141) rfl rfl (by decide) ?_
  refine L_s (pc' := 142) rfl rfl ?_
  refine L_gf (pc' := 145) rfl fr_141_5 rfl ?_
  refine L_s (pc' := 146) rfl rfl ?_
  refine L_aa (pc' := 147) rfl sh_145 (by decide) (by decide) rfl rfl ?_
  refine L_s (pc' := 148) rfl rfl ?_
  refine L_gf (pc' := 151) rfl fr_2_5 rfl ?_
  refine L_s (pc' := 152) rfl rfl ?_
  refine L_aa (pc' := 153) rfl sh_6 (by decide) (by decide) rfl rfl ?_
  refine L_cv (pc' := 156) (as := [.ref 146, .ref 7]) (rest := []) rfl rfl (e_x_copyInts_c181 (by omega) _) rfl fun g14 => ?_
  refine L_s (pc' := 157) rfl rfl ?_
  refine L_gf (pc' := 160) rfl fr_141_14 rfl ?_
  refine L_s (pc' := 161) rfl rfl ?_
  refine L_aa (pc' := 162) rfl sh_155 (by decide) (by decide) rfl rfl ?_
  refine L_s (pc' := 163) rfl rfl ?_
  refine L_gf (pc' := 166) rfl fr_2_14 rfl ?_
  refine L_s (pc' := 167) rfl rfl ?_
  refine L_aa (pc' := 168) rfl sh_16 (by decide) (by decide) rfl rfl ?_
  refine L_cv (pc' := 171) (as := [.ref 156, .ref 17]) (rest := []) rfl rfl (e_x_copyInts_c182 (by omega) _) rfl fun g15 => ?_
  refine L_ii (pc' := 174) (L' := [some (.ref 2), some (.ref 141), some (.int 1)]) rfl rfl q1_1 (by decide : (0 : Int32) + 1 = 1) rfl rfl ?_
  refine L_s (pc' := 136) rfl rfl ?_
  refine L_s (pc' := 137) rfl rfl ?_
  refine L_ic (pc' := 138) rfl q1_2 rfl ?_
  refine L_bf (c := (2 : Int32) ≤ 1) (t := 177) (n := 141) rfl rfl (by decide) ?_
  refine L_s (pc' := 142) rfl rfl ?_
  refine L_gf (pc' := 145) rfl fr_141_5 rfl ?_
  refine L_s (pc' := 146) rfl rfl ?_
  refine L_aa (pc' := 147) rfl sh_145 (by decide) (by decide) rfl rfl ?_
  refine L_s (pc' := 148) rfl rfl ?_
  refine L_gf (pc' := 151) rfl fr_2_5 rfl ?_
  refine L_s (pc' := 152) rfl rfl ?_
  refine L_aa (pc' := 153) rfl sh_6 (by decide) (by decide) rfl rfl ?_
  refine L_cv (pc' := 156) (as := [.ref 147, .ref 8]) (rest := []) rfl rfl (e_x_copyInts_c183 (by omega) _) rfl fun g16 => ?_
  refine L_s (pc' := 157) rfl rfl ?_
  refine L_gf (pc' := 160) rfl fr_141_14 rfl ?_
  refine L_s (pc' := 161) rfl rfl ?_
  refine L_aa (pc' := 162) rfl sh_155 (by decide) (by decide) rfl rfl ?_
  refine L_s (pc' := 163) rfl rfl ?_
  refine L_gf (pc' := 166) rfl fr_2_14 rfl ?_
  refine L_s (pc' := 167) rfl rfl ?_
  refine L_aa (pc' := 168) rfl sh_16 (by decide) (by decide) rfl rfl ?_
  refine L_cv (pc' := 171) (as := [.ref 157, .ref 18]) (rest := []) rfl rfl (e_x_copyInts_c184 (by omega) _) rfl fun g17 => ?_
  refine L_ii (pc' := 174) (L' := [some (.ref 2), some (.ref 141), some (.int 2)]) rfl rfl q1_1 (by decide : (1 : Int32) + 1 = 2) rfl rfl ?_
  refine L_s (pc' := 136) rfl rfl ?_
  refine L_s (pc' := 137) rfl rfl ?_
  refine L_ic (pc' := 138) rfl q1_2 rfl ?_
  refine L_bt (c := (2 : Int32) ≤ 2) (t := 177) (n := 141) rfl rfl (by decide) ?_
  refine L_s (pc' := 178) rfl rfl ?_
  refine L_gf (pc' := 181) rfl fr_141_15 rfl ?_
  refine L_s (pc' := 182) rfl rfl ?_
  refine L_gf (pc' := 185) rfl fr_2_15 rfl ?_
  refine L_cv (pc' := 188) (as := [.ref 158, .ref 19]) (rest := []) rfl rfl (e_x_copyInts_c185 (by omega) _) rfl fun g18 => ?_
  refine L_s (pc' := 189) rfl rfl ?_
  refine L_gf (pc' := 192) rfl fr_141_16 rfl ?_
  refine L_s (pc' := 193) rfl rfl ?_
  refine L_gf (pc' := 196) rfl fr_2_16 rfl ?_
  refine L_cv (pc' := 199) (as := [.ref 159, .ref 20]) (rest := []) rfl rfl (e_x_copyInts_c186 (by omega) _) rfl fun g19 => ?_
  refine L_s (pc' := 200) rfl rfl ?_
  refine L_gf (pc' := 203) rfl fr_141_17 rfl ?_
  refine L_s (pc' := 204) rfl rfl ?_
  refine L_gf (pc' := 207) rfl fr_2_17 rfl ?_
  refine L_cv (pc' := 210) (as := [.ref 160, .ref 21]) (rest := []) rfl rfl (e_x_copyInts_c187 (by omega) _) rfl fun g20 => ?_
  exact L_ret rfl rfl rfl
