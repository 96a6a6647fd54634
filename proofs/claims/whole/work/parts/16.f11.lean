/-! printed by wip/whole/decomp.py -/
def x_copyInts_c188  (g : Sg) : Option (Sg) :=
  lt1 (cp2 g 162 0 23 0 (Int32.toNatClampNeg 8)) (fun g1 => (some g1))
theorem e_x_copyInts_c188 {X : Xx} {d : Nat} (hd : 1 ≤ d)  (g : Sg) : ∀ r, x_copyInts_c188  g = some r → EvM zft mtl X d 145 [.ref 162, .ref 23] (SHF, g) ((fun r : Sg => ((none, (SHF, r)) : Out)) r) := by
  obtain ⟨d, rfl⟩ : ∃ d0, d = d0 + 1 := ⟨d - 1, by omega⟩
  have hd : 0 ≤ d := by omega
  refine E_in (f := (fun r : Sg => ((none, (SHF, r)) : Out))) rfl (Nat.le_of_ble_eq_true rfl) ?_
  unfold x_copyInts_c188
  change Lt X d none k_145 _ 0 [some (.ref 162), some (.ref 23)] [] g _
  refine L_s (pc' := 1) rfl rfl ?_
  refine L_ic (pc' := 2) rfl q1_0 rfl ?_
  refine L_s (pc' := 3) rfl rfl ?_
  refine L_ic (pc' := 4) rfl q1_0 rfl ?_
  refine L_s (pc' := 5) rfl rfl ?_
  refine L_s (pc' := 6) (st' := [.int 8, .int 0, .ref 23, .int 0, .ref 162]) rfl rfl ?_
  refine L_s (pc' := 7) rfl rfl ?_
  refine L_s (pc' := 8) (st' := [.int 8, .int 8, .int 0, .ref 23, .int 0, .ref 162]) rfl rfl ?_
  refine L_s (pc' := 11) rfl rfl ?_
  refine L_e (b := 8) (by decide) ?_
  refine L_cp (pc' := 14) rfl sh_162 sh_23 (by decide) (by decide) (by decide) (by decide) rfl rfl ?_
  refine L_let fun g1 _ => ?_
  exact L_ret rfl rfl rfl
def x_copyInts_c189  (g : Sg) : Option (Sg) :=
  lt1 (cp2 g 163 0 24 0 (Int32.toNatClampNeg 120)) (fun g1 => (some g1))
theorem e_x_copyInts_c189 {X : Xx} {d : Nat} (hd : 1 ≤ d)  (g : Sg) : ∀ r, x_copyInts_c189  g = some r → EvM zft mtl X d 145 [.ref 163, .ref 24] (SHF, g) ((fun r : Sg => ((none, (SHF, r)) : Out)) r) := by
  obtain ⟨d, rfl⟩ : ∃ d0, d = d0 + 1 := ⟨d - 1, by omega⟩
  have hd : 0 ≤ d := by omega
  refine E_in (f := (fun r : Sg => ((none, (SHF, r)) : Out))) rfl (Nat.le_of_ble_eq_true rfl) ?_
  unfold x_copyInts_c189
  change Lt X d none k_145 _ 0 [some (.ref 163), some (.ref 24)] [] g _
  refine L_s (pc' := 1) rfl rfl ?_
  refine L_ic (pc' := 2) rfl q1_0 rfl ?_
  refine L_s (pc' := 3) rfl rfl ?_
  refine L_ic (pc' := 4) rfl q1_0 rfl ?_
  refine L_s (pc' := 5) rfl rfl ?_
  refine L_s (pc' := 6) (st' := [.int 120, .int 0, .ref 24, .int 0, .ref 163]) rfl rfl ?_
  refine L_s (pc' := 7) rfl rfl ?_
  refine L_s (pc' := 8) (st' := [.int 120, .int 120, .int 0, .ref 24, .int 0, .ref 163]) rfl rfl ?_
  refine L_s (pc' := 11) rfl rfl ?_
  refine L_e (b := 120) (by decide) ?_
  refine L_cp (pc' := 14) rfl sh_163 sh_24 (by decide) (by decide) (by decide) (by decide) rfl rfl ?_
  refine L_let fun g1 _ => ?_
  exact L_ret rfl rfl rfl
def x_copyInts_c190  (g : Sg) : Option (Sg) :=
  lt1 (cp2 g 164 0 25 0 (Int32.toNatClampNeg 120)) (fun g1 => (some g1))
theorem e_x_copyInts_c190 {X : Xx} {d : Nat} (hd : 1 ≤ d)  (g : Sg) : ∀ r, x_copyInts_c190  g = some r → EvM zft mtl X d 145 [.ref 164, .ref 25] (SHF, g) ((fun r : Sg => ((none, (SHF, r)) : Out)) r) := by
  obtain ⟨d, rfl⟩ : ∃ d0, d = d0 + 1 := ⟨d - 1, by omega⟩
  have hd : 0 ≤ d := by omega
  refine E_in (f := (fun r : Sg => ((none, (SHF, r)) : Out))) rfl (Nat.le_of_ble_eq_true rfl) ?_
  unfold x_copyInts_c190
  change Lt X d none k_145 _ 0 [some (.ref 164), some (.ref 25)] [] g _
  refine L_s (pc' := 1) rfl rfl ?_
  refine L_ic (pc' := 2) rfl q1_0 rfl ?_
  refine L_s (pc' := 3) rfl rfl ?_
  refine L_ic (pc' := 4) rfl q1_0 rfl ?_
  refine L_s (pc' := 5) rfl rfl ?_
  refine L_s (pc' := 6) (st' := [.int 120, .int 0, .ref 25, .int 0, .ref 164]) rfl rfl ?_
  refine L_s (pc' := 7) rfl rfl ?_
  refine L_s (pc' := 8) (st' := [.int 120, .int 120, .int 0, .ref 25, .int 0, .ref 164]) rfl rfl ?_
  refine L_s (pc' := 11) rfl rfl ?_
  refine L_e (b := 120) (by decide) ?_
  refine L_cp (pc' := 14) rfl sh_164 sh_25 (by decide) (by decide) (by decide) (by decide) rfl rfl ?_
  refine L_let fun g1 _ => ?_
  exact L_ret rfl rfl rfl
def x_copyInts_c191  (g : Sg) : Option (Sg) :=
  lt1 (cp2 g 165 0 26 0 (Int32.toNatClampNeg 120)) (fun g1 => (some g1))
theorem e_x_copyInts_c191 {X : Xx} {d : Nat} (hd : 1 ≤ d)  (g : Sg) : ∀ r, x_copyInts_c191  g = some r → EvM zft mtl X d 145 [.ref 165, .ref 26] (SHF, g) ((fun r : Sg => ((none, (SHF, r)) : Out)) r) := by
  obtain ⟨d, rfl⟩ : ∃ d0, d = d0 + 1 := ⟨d - 1, by omega⟩
  have hd : 0 ≤ d := by omega
  refine E_in (f := (fun r : Sg => ((none, (SHF, r)) : Out))) rfl (Nat.le_of_ble_eq_true rfl) ?_
  unfold x_copyInts_c191
  change Lt X d none k_145 _ 0 [some (.ref 165), some (.ref 26)] [] g _
  refine L_s (pc' := 1) rfl rfl ?_
  refine L_ic (pc' := 2) rfl q1_0 rfl ?_
  refine L_s (pc' := 3) rfl rfl ?_
  refine L_ic (pc' := 4) rfl q1_0 rfl ?_
  refine L_s (pc' := 5) rfl rfl ?_
  refine L_s (pc' := 6) (st' := [.int 120, .int 0, .ref 26, .int 0, .ref 165]) rfl rfl ?_
  refine L_s (pc' := 7) rfl rfl ?_
  refine L_s (pc' := 8) (st' := [.int 120, .int 120, .int 0, .ref 26, .int 0, .ref 165]) rfl rfl ?_
  refine L_s (pc' := 11) rfl rfl ?_
  refine L_e (b := 120) (by decide) ?_
  refine L_cp (pc' := 14) rfl sh_165 sh_26 (by decide) (by decide) (by decide) (by decide) rfl rfl ?_
  refine L_let fun g1 _ => ?_
  exact L_ret rfl rfl rfl
def x_copyInts_c192  (g : Sg) : Option (Sg) :=
  lt1 (cp2 g 166 0 27 0 (Int32.toNatClampNeg 120)) (fun g1 => (some g1))
theorem e_x_copyInts_c192 {X : Xx} {d : Nat} (hd : 1 ≤ d)  (g : Sg) : ∀ r, x_copyInts_c192  g = some r → EvM zft mtl X d 145 [.ref 166, .ref 27] (SHF, g) ((fun r : Sg => ((none, (SHF, r)) : Out)) r) := by
  obtain ⟨d, rfl⟩ : ∃ d0, d = d0 + 1 := ⟨d - 1, by omega⟩
  have hd : 0 ≤ d := by omega
  refine E_in (f := (fun r : Sg => ((none, (SHF, r)) : Out))) rfl (Nat.le_of_ble_eq_true rfl) ?_
  unfold x_copyInts_c192
  change Lt X d none k_145 _ 0 [some (.ref 166), some (.ref 27)] [] g _
  refine L_s (pc' := 1) rfl rfl ?_
  refine L_ic (pc' := 2) rfl q1_0 rfl ?_
  refine L_s (pc' := 3) rfl rfl ?_
  refine L_ic (pc' := 4) rfl q1_0 rfl ?_
  refine L_s (pc' := 5) rfl rfl ?_
  refine L_s (pc' := 6) (st' := [.int 120, .int 0, .ref 27, .int 0, .ref 166]) rfl rfl ?_
  refine L_s (pc' := 7) rfl rfl ?_
  refine L_s (pc' := 8) (st' := [.int 120, .int 120, .int 0, .ref 27, .int 0, .ref 166]) rfl rfl ?_
  refine L_s (pc' := 11) rfl rfl ?_
  refine L_e (b := 120) (by decide) ?_
  refine L_cp (pc' := 14) rfl sh_166 sh_27 (by decide) (by decide) (by decide) (by decide) rfl rfl ?_
  refine L_let fun g1 _ => ?_
  exact L_ret rfl rfl rfl
def x_copyInts_c193  (g : Sg) : Option (Sg) :=
  lt1 (cp2 g 167 0 28 0 (Int32.toNatClampNeg 120)) (fun g1 => (some g1))
theorem e_x_copyInts_c193 {X : Xx} {d : Nat} (hd : 1 ≤ d)  (g : Sg) : ∀ r, x_copyInts_c193  g = some r → EvM zft mtl X d 145 [.ref 167, .ref 28] (SHF, g) ((fun r : Sg => ((none, (SHF, r)) : Out)) r) := by
  obtain ⟨d, rfl⟩ : ∃ d0, d = d0 + 1 := ⟨d - 1, by omega⟩
  have hd : 0 ≤ d := by omega
  refine E_in (f := (fun r : Sg => ((none, (SHF, r)) : Out))) rfl (Nat.le_of_ble_eq_true rfl) ?_
  unfold x_copyInts_c193
  change Lt X d none k_145 _ 0 [some (.ref 167), some (.ref 28)] [] g _
  refine L_s (pc' := 1) rfl rfl ?_
  refine L_ic (pc' := 2) rfl q1_0 rfl ?_
  refine L_s (pc' := 3) rfl rfl ?_
  refine L_ic (pc' := 4) rfl q1_0 rfl ?_
  refine L_s (pc' := 5) rfl rfl ?_
  refine L_s (pc' := 6) (st' := [.int 120, .int 0, .ref 28, .int 0, .ref 167]) rfl rfl ?_
  refine L_s (pc' := 7) rfl rfl ?_
  refine L_s (pc' := 8) (st' := [.int 120, .int 120, .int 0, .ref 28, .int 0, .ref 167]) rfl rfl ?_
  refine L_s (pc' := 11) rfl rfl ?_
  refine L_e (b := 120) (by decide) ?_
  refine L_cp (pc' := 14) rfl sh_167 sh_28 (by decide) (by decide) (by decide) (by decide) rfl rfl ?_
  refine L_let fun g1 _ => ?_
  exact L_ret rfl rfl rfl
def x_copyInts_c194  (g : Sg) : Option (Sg) :=
  lt1 (cp2 g 168 0 29 0 (Int32.toNatClampNeg 120)) (fun g1 => (some g1))
theorem e_x_copyInts_c194 {X : Xx} {d : Nat} (hd : 1 ≤ d)  (g : Sg) : ∀ r, x_copyInts_c194  g = some r → EvM zft mtl X d 145 [.ref 168, .ref 29] (SHF, g) ((fun r : Sg => ((none, (SHF, r)) : Out)) r) := by
  obtain ⟨d, rfl⟩ : ∃ d0, d = d0 + 1 := ⟨d - 1, by omega⟩
  have hd : 0 ≤ d := by omega
  refine E_in (f := (fun r : Sg => ((none, (SHF, r)) : Out))) rfl (Nat.le_of_ble_eq_true rfl) ?_
  unfold x_copyInts_c194
  change Lt X d none k_145 _ 0 [some (.ref 168), some (.ref 29)] [] g _
  refine L_s (pc' := 1) rfl rfl ?_
  refine L_ic (pc' := 2) rfl q1_0 rfl ?_
  refine L_s (pc' := 3) rfl rfl ?_
  refine L_ic (pc' := 4) rfl q1_0 rfl ?_
  refine L_s (pc' := 5) rfl rfl ?_
  refine L_s (pc' := 6) (st' := [.int 120, .int 0, .ref 29, .int 0, .ref 168]) rfl rfl ?_
  refine L_s (pc' := 7) rfl rfl ?_
  refine L_s (pc' := 8) (st' := [.int 120, .int 120, .int 0, .ref 29, .int 0, .ref 168]) rfl rfl ?_
  refine L_s (pc' := 11) rfl rfl ?_
  refine L_e (b := 120) (by decide) ?_
  refine L_cp (pc' := 14) rfl sh_168 sh_29 (by decide) (by decide) (by decide) (by decide) rfl rfl ?_
  refine L_let fun g1 _ => ?_
  exact L_ret rfl rfl rfl
def x_copyBytes_c10  (g : Sg) : Option (Sg) :=
  lt1 (cp2 g 169 0 30 0 (Int32.toNatClampNeg 2400)) (fun g1 => (some g1))
theorem e_x_copyBytes_c10 {X : Xx} {d : Nat} (hd : 1 ≤ d)  (g : Sg) : ∀ r, x_copyBytes_c10  g = some r → EvM zft mtl X d 146 [.ref 169, .ref 30] (SHF, g) ((fun r : Sg => ((none, (SHF, r)) : Out)) r) := by
  obtain ⟨d, rfl⟩ : ∃ d0, d = d0 + 1 := ⟨d - 1, by omega⟩
  have hd : 0 ≤ d := by omega
  refine E_in (f := (fun r : Sg => ((none, (SHF, r)) : Out))) rfl (Nat.le_of_ble_eq_true rfl) ?_
  unfold x_copyBytes_c10
  change Lt X d none k_146 _ 0 [some (.ref 169), some (.ref 30)] [] g _
  refine L_s (pc' := 1) rfl rfl ?_
  refine L_ic (pc' := 2) rfl q1_0 rfl ?_
  refine L_s (pc' := 3) rfl rfl ?_
  refine L_ic (pc' := 4) rfl q1_0 rfl ?_
  refine L_s (pc' := 5) rfl rfl ?_
  refine L_s (pc' := 6) (st' := [.int 2400, .int 0, .ref 30, .int 0, .ref 169]) rfl rfl ?_
  refine L_s (pc' := 7) rfl rfl ?_
  refine L_s (pc' := 8) (st' := [.int 2400, .int 2400, .int 0, .ref 30, .int 0, .ref 169]) rfl rfl ?_
  refine L_s (pc' := 11) rfl rfl ?_
  refine L_e (b := 2400) (by decide) ?_
  refine L_cp (pc' := 14) rfl sh_169 sh_30 (by decide) (by decide) (by decide) (by decide) rfl rfl ?_
  refine L_let fun g1 _ => ?_
  exact L_ret rfl rfl rfl
def rights_copyFrom_c5  (g : Sg) : Option (Sg) :=
  Option.bind (x_copyInts_c188 g) (fun g1 => lt1 (up2 g1 22 1 (g1 161 1)) (fun g2 => Option.bind (x_copyInts_c189 g2) (fun g3 => Option.bind (x_copyInts_c190 g3) (fun g4 => Option.bind (x_copyInts_c191 g4) (fun g5 => Option.bind (x_copyInts_c192 g5) (fun g6 => Option.bind (x_copyInts_c193 g6) (fun g7 => Option.bind (x_copyInts_c194 g7) (fun g8 => lt1 (up2 g8 22 8 (g8 161 8)) (fun g9 => Option.bind (x_copyBytes_c10 g9) (fun g10 => (some g10)))))))))))
theorem e_rights_copyFrom_c5 {X : Xx} {d : Nat} (hd : 2 ≤ d)  (g : Sg) : ∀ r, rights_copyFrom_c5  g = some r → EvM zft mtl X d 77 [.ref 22, .ref 161] (SHF, g) ((fun r : Sg => ((none, (SHF, r)) : Out)) r) := by
  obtain ⟨d, rfl⟩ : ∃ d0, d = d0 + 1 := ⟨d - 1, by omega⟩
  have hd : 1 ≤ d := by omega
  refine E_in (f := (fun r : Sg => ((none, (SHF, r)) : Out))) rfl (Nat.le_of_ble_eq_true rfl) ?_
  unfold rights_copyFrom_c5
  change Lt X d none k_77 _ 0 [some (.ref 22), some (.ref 161)] [] g _
  refine L_s (pc' := 1) rfl rfl ?_
  refine L_gf (pc' := 4) rfl fr_161_0 rfl ?_
  refine L_s (pc' := 5) rfl rfl ?_
  refine L_gf (pc' := 8) rfl fr_22_0 rfl ?_
  refine L_cv (pc' := 11) (as := [.ref 162, .ref 23]) (rest := []) rfl rfl (e_x_copyInts_c188 (by omega) _) rfl fun g1 => ?_
  refine L_s (pc' := 12) rfl rfl ?_
  refine L_s (pc' := 13) rfl rfl ?_
  refine L_gf (pc' := 16) rfl fi_161_1 rfl ?_
  refine L_pf (pc' := 19) rfl sh_22 (by decide) rfl rfl ?_
  refine L_let fun g2 _ => ?_
  refine L_s (pc' := 20) rfl rfl ?_
  refine L_gf (pc' := 23) rfl fr_161_2 rfl ?_
  refine L_s (pc' := 24) rfl rfl ?_
  refine L_gf (pc' := 27) rfl fr_22_2 rfl ?_
  refine L_cv (pc' := 30) (as := [.ref 163, .ref 24]) (rest := []) rfl rfl (e_x_copyInts_c189 (by omega) _) rfl fun g3 => ?_
  refine L_s (pc' := 31) rfl rfl ?_
  refine L_gf (pc' := 34) rfl fr_161_3 rfl ?_
  refine L_s (pc' := 35) rfl rfl ?_
  refine L_gf (pc' := 38) rfl fr_22_3 rfl ?_
  refine L_cv (pc' := 41) (as := [.ref 164, .ref 25]) (rest := []) rfl rfl (e_x_copyInts_c190 (by omega) _) rfl fun g4 => ?_
  refine L_s (pc' := 42) rfl rfl ?_
  refine L_gf (pc' := 45) rfl fr_161_4 rfl ?_
  refine L_s (pc' := 46) rfl rfl ?_
  refine L_gf (pc' := 49) rfl fr_22_4 rfl ?_
  refine L_cv (pc' := 52) (as := [.ref 165, .ref 26]) (rest := []) rfl rfl (e_x_copyInts_c191 (by omega) _) rfl fun g5 => ?_
  refine L_s (pc' := 53) rfl rfl ?_
  refine L_gf (pc' := 56) rfl fr_161_5 rfl ?_
  refine L_s (pc' := 57) rfl rfl ?_
  refine L_gf (pc' := 60) rfl fr_22_5 rfl ?_
  refine L_cv (pc' := 63) (as := [.ref 166, .ref 27]) (rest := []) rfl rfl (e_x_copyInts_c192 (by omega) _) rfl fun g6 => ?_
  refine L_s (pc' := 64) rfl rfl ?_
  refine L_gf (pc' := 67) rfl fr_161_6 rfl ?_
  refine L_s (pc' := 68) rfl rfl ?_
  refine L_gf (pc' := 71) rfl fr_22_6 rfl ?_
  refine L_cv (pc' := 74) (as := [.ref 167, .ref 28]) (rest := []) rfl rfl (e_x_copyInts_c193 (by omega) _) rfl fun g7 => ?_
  refine L_s (pc' := 75) rfl rfl ?_
  refine L_gf (pc' := 78) rfl fr_161_7 rfl ?_
  refine L_s (pc' := 79) rfl rfl ?_
  refine L_gf (pc' := 82) rfl fr_22_7 rfl ?_
  refine L_cv (pc' := 85) (as := [.ref 168, .ref 29]) (rest := []) rfl rfl (e_x_copyInts_c194 (by omega) _) rfl fun g8 => ?_
  refine L_s (pc' := 86) rfl rfl ?_
  refine L_s (pc' := 87) rfl rfl ?_
  refine L_gf (pc' := 90) rfl fi_161_8 rfl ?_
  refine L_pf (pc' := 93) rfl sh_22 (by decide) rfl rfl ?_
  refine L_let fun g9 _ => ?_
  refine L_s (pc' := 94) rfl rfl ?_
  refine L_gf (pc' := 97) rfl fr_161_9 rfl ?_
  refine L_s (pc' := 98) rfl rfl ?_
  refine L_gf (pc' := 101) rfl fr_22_9 rfl ?_
  refine L_cv (pc' := 104) (as := [.ref 169, .ref 30]) (rest := []) rfl rfl (e_x_copyBytes_c10 (by omega) _) rfl fun g10 => ?_
  exact L_ret rfl rfl rfl
def x_copyBytes_c11  (g : Sg) : Option (Sg) :=
  lt1 (cp2 g 171 0 32 0 (Int32.toNatClampNeg 500)) (fun g1 => (some g1))
theorem e_x_copyBytes_c11 {X : Xx} {d : Nat} (hd : 1 ≤ d)  (g : Sg) : ∀ r, x_copyBytes_c11  g = some r → EvM zft mtl X d 146 [.ref 171, .ref 32] (SHF, g) ((fun r : Sg => ((none, (SHF, r)) : Out)) r) := by
  obtain ⟨d, rfl⟩ : ∃ d0, d = d0 + 1 := ⟨d - 1, by omega⟩
  have hd : 0 ≤ d := by omega
  refine E_in (f := (fun r : Sg => ((none, (SHF, r)) : Out))) rfl (Nat.le_of_ble_eq_true rfl) ?_
  unfold x_copyBytes_c11
  change Lt X d none k_146 _ 0 [some (.ref 171), some (.ref 32)] [] g _
  refine L_s (pc' := 1) rfl rfl ?_
  refine L_ic (pc' := 2) rfl q1_0 rfl ?_
  refine L_s (pc' := 3) rfl rfl ?_
  refine L_ic (pc' := 4) rfl q1_0 rfl ?_
  refine L_s (pc' := 5) rfl rfl ?_
  refine L_s (pc' := 6) (st' := [.int 500, .int 0, .ref 32, .int 0, .ref 171]) rfl rfl ?_
  refine L_s (pc' := 7) rfl rfl ?_
  refine L_s (pc' := 8) (st' := [.int 500, .int 500, .int 0, .ref 32, .int 0, .ref 171]) rfl rfl ?_
  refine L_s (pc' := 11) rfl rfl ?_
  refine L_e (b := 500) (by decide) ?_
  refine L_cp (pc' := 14) rfl sh_171 sh_32 (by decide) (by decide) (by decide) (by decide) rfl rfl ?_
  refine L_let fun g1 _ => ?_
  exact L_ret rfl rfl rfl
def x_copyInts_c195  (g : Sg) : Option (Sg) :=
  lt1 (cp2 g 173 0 34 0 (Int32.toNatClampNeg 16)) (fun g1 => (some g1))
theorem e_x_copyInts_c195 {X : Xx} {d : Nat} (hd : 1 ≤ d)  (g : Sg) : ∀ r, x_copyInts_c195  g = some r → EvM zft mtl X d 145 [.ref 173, .ref 34] (SHF, g) ((fun r : Sg => ((none, (SHF, r)) : Out)) r) := by
  obtain ⟨d, rfl⟩ : ∃ d0, d = d0 + 1 := ⟨d - 1, by omega⟩
  have hd : 0 ≤ d := by omega
  refine E_in (f := (fun r : Sg => ((none, (SHF, r)) : Out))) rfl (Nat.le_of_ble_eq_true rfl) ?_
  unfold x_copyInts_c195
  change Lt X d none k_145 _ 0 [some (.ref 173), some (.ref 34)] [] g _
  refine L_s (pc' := 1) rfl rfl ?_
  refine L_ic (pc' := 2) rfl q1_0 rfl ?_
  refine L_s (pc' := 3) rfl rfl ?_
  refine L_ic (pc' := 4) rfl q1_0 rfl ?_
  refine L_s (pc' := 5) rfl rfl ?_
  refine L_s (pc' := 6) (st' := [.int 16, .int 0, .ref 34, .int 0, .ref 173]) rfl rfl ?_
  refine L_s (pc' := 7) rfl rfl ?_
  refine L_s (pc' := 8) (st' := [.int 16, .int 16, .int 0, .ref 34, .int 0, .ref 173]) rfl rfl ?_
  refine L_s (pc' := 11) rfl rfl ?_
  refine L_e (b := 16) (by decide) ?_
  refine L_cp (pc' := 14) rfl sh_173 sh_34 (by decide) (by decide) (by decide) (by decide) rfl rfl ?_
  refine L_let fun g1 _ => ?_
  exact L_ret rfl rfl rfl
def x_copyInts_c196  (g : Sg) : Option (Sg) :=
  lt1 (cp2 g 174 0 35 0 (Int32.toNatClampNeg 16)) (fun g1 => (some g1))
theorem e_x_copyInts_c196 {X : Xx} {d : Nat} (hd : 1 ≤ d)  (g : Sg) : ∀ r, x_copyInts_c196  g = some r → EvM zft mtl X d 145 [.ref 174, .ref 35] (SHF, g) ((fun r : Sg => ((none, (SHF, r)) : Out)) r) := by
  obtain ⟨d, rfl⟩ : ∃ d0, d = d0 + 1 := ⟨d - 1, by omega⟩
  have hd : 0 ≤ d := by omega
  refine E_in (f := (fun r : Sg => ((none, (SHF, r)) : Out))) rfl (Nat.le_of_ble_eq_true rfl) ?_
  unfold x_copyInts_c196
  change Lt X d none k_145 _ 0 [some (.ref 174), some (.ref 35)] [] g _
  refine L_s (pc' := 1) rfl rfl ?_
  refine L_ic (pc' := 2) rfl q1_0 rfl ?_
  refine L_s (pc' := 3) rfl rfl ?_
  refine L_ic (pc' := 4) rfl q1_0 rfl ?_
  refine L_s (pc' := 5) rfl rfl ?_
  refine L_s (pc' := 6) (st' := [.int 16, .int 0, .ref 35, .int 0, .ref 174]) rfl rfl ?_
  refine L_s (pc' := 7) rfl rfl ?_
  refine L_s (pc' := 8) (st' := [.int 16, .int 16, .int 0, .ref 35, .int 0, .ref 174]) rfl rfl ?_
  refine L_s (pc' := 11) rfl rfl ?_
  refine L_e (b := 16) (by decide) ?_
  refine L_cp (pc' := 14) rfl sh_174 sh_35 (by decide) (by decide) (by decide) (by decide) rfl rfl ?_
  refine L_let fun g1 _ => ?_
  exact L_ret rfl rfl rfl
def x_copyInts_c197  (g : Sg) : Option (Sg) :=
  lt1 (cp2 g 175 0 36 0 (Int32.toNatClampNeg 16)) (fun g1 => (some g1))
theorem e_x_copyInts_c197 {X : Xx} {d : Nat} (hd : 1 ≤ d)  (g : Sg) : ∀ r, x_copyInts_c197  g = some r → EvM zft mtl X d 145 [.ref 175, .ref 36] (SHF, g) ((fun r : Sg => ((none, (SHF, r)) : Out)) r) := by
  obtain ⟨d, rfl⟩ : ∃ d0, d = d0 + 1 := ⟨d - 1, by omega⟩
  have hd : 0 ≤ d := by omega
  refine E_in (f := (fun r : Sg => ((none, (SHF, r)) : Out))) rfl (Nat.le_of_ble_eq_true rfl) ?_
  unfold x_copyInts_c197
  change Lt X d none k_145 _ 0 [some (.ref 175), some (.ref 36)] [] g _
  refine L_s (pc' := 1) rfl rfl ?_
  refine L_ic (pc' := 2) rfl q1_0 rfl ?_
  refine L_s (pc' := 3) rfl rfl ?_
  refine L_ic (pc' := 4) rfl q1_0 rfl ?_
  refine L_s (pc' := 5) rfl rfl ?_
  refine L_s (pc' := 6) (st' := [.int 16, .int 0, .ref 36, .int 0, .ref 175]) rfl rfl ?_
  refine L_s (pc' := 7) rfl rfl ?_
  refine L_s (pc' := 8) (st' := [.int 16, .int 16, .int 0, .ref 36, .int 0, .ref 175]) rfl rfl ?_
  refine L_s (pc' := 11) rfl rfl ?_
  refine L_e (b := 16) (by decide) ?_
  refine L_cp (pc' := 14) rfl sh_175 sh_36 (by decide) (by decide) (by decide) (by decide) rfl rfl ?_
  refine L_let fun g1 _ => ?_
  exact L_ret rfl rfl rfl
def x_copyFlags_c17  (g : Sg) : Option (Sg) :=
  lt1 (cp2 g 176 0 37 0 (Int32.toNatClampNeg 64)) (fun g1 => (some g1))
theorem e_x_copyFlags_c17 {X : Xx} {d : Nat} (hd : 1 ≤ d)  (g : Sg) : ∀ r, x_copyFlags_c17  g = some r → EvM zft mtl X d 147 [.ref 176, .ref 37] (SHF, g) ((fun r : Sg => ((none, (SHF, r)) : Out)) r) := by
  obtain ⟨d, rfl⟩ : ∃ d0, d = d0 + 1 := ⟨d - 1, by omega⟩
  have hd : 0 ≤ d := by omega
  refine E_in (f := (fun r : Sg => ((none, (SHF, r)) : Out))) rfl (Nat.le_of_ble_eq_true rfl) ?_
  unfold x_copyFlags_c17
  change Lt X d none k_147 _ 0 [some (.ref 176), some (.ref 37)] [] g _
  refine L_s (pc' := 1) rfl rfl ?_
  refine L_ic (pc' := 2) rfl q1_0 rfl ?_
  refine L_s (pc' := 3) rfl rfl ?_
  refine L_ic (pc' := 4) rfl q1_0 rfl ?_
  refine L_s (pc' := 5) rfl rfl ?_
  refine L_s (pc' := 6) (st' := [.int 64, .int 0, .ref 37, .int 0, .ref 176]) rfl rfl ?_
  refine L_s (pc' := 7) rfl rfl ?_
  refine L_s (pc' := 8) (st' := [.int 64, .int 64, .int 0, .ref 37, .int 0, .ref 176]) rfl rfl ?_
  refine L_s (pc' := 11) rfl rfl ?_
  refine L_e (b := 64) (by decide) ?_
  refine L_cp (pc' := 14) rfl sh_176 sh_37 (by decide) (by decide) (by decide) (by decide) rfl rfl ?_
  refine L_let fun g1 _ => ?_
  exact L_ret rfl rfl rfl
def x_copyInts_c198  (g : Sg) : Option (Sg) :=
  lt1 (cp2 g 177 0 38 0 (Int32.toNatClampNeg 64)) (fun g1 => (some g1))
theorem e_x_copyInts_c198 {X : Xx} {d : Nat} (hd : 1 ≤ d)  (g : Sg) : ∀ r, x_copyInts_c198  g = some r → EvM zft mtl X d 145 [.ref 177, .ref 38] (SHF, g) ((fun r : Sg => ((none, (SHF, r)) : Out)) r) := by
  obtain ⟨d, rfl⟩ : ∃ d0, d = d0 + 1 := ⟨d - 1, by omega⟩
  have hd : 0 ≤ d := by omega
  refine E_in (f := (fun r : Sg => ((none, (SHF, r)) : Out))) rfl (Nat.le_of_ble_eq_true rfl) ?_
  unfold x_copyInts_c198
  change Lt X d none k_145 _ 0 [some (.ref 177), some (.ref 38)] [] g _
  refine L_s (pc' := 1) rfl rfl ?_
  refine L_ic (pc' := 2) rfl q1_0 rfl ?_
  refine L_s (pc' := 3) rfl rfl ?_
  refine L_ic (pc' := 4) rfl q1_0 rfl ?_
  refine L_s (pc' := 5) rfl rfl ?_
  refine L_s (pc' := 6) (st' := [.int 64, .int 0, .ref 38, .int 0, .ref 177]) rfl rfl ?_
  refine L_s (pc' := 7) rfl rfl ?_
  refine L_s (pc' := 8) (st' := [.int 64, .int 64, .int 0, .ref 38, .int 0, .ref 177]) rfl rfl ?_
  refine L_s (pc' := 11) rfl rfl ?_
  refine L_e (b := 64) (by decide) ?_
  refine L_cp (pc' := 14) rfl sh_177 sh_38 (by decide) (by decide) (by decide) (by decide) rfl rfl ?_
  refine L_let fun g1 _ => ?_
  exact L_ret rfl rfl rfl
def x_copyInts_c199  (g : Sg) : Option (Sg) :=
  lt1 (cp2 g 178 0 39 0 (Int32.toNatClampNeg 64)) (fun g1 => (some g1))
theorem e_x_copyInts_c199 {X : Xx} {d : Nat} (hd : 1 ≤ d)  (g : Sg) : ∀ r, x_copyInts_c199  g = some r → EvM zft mtl X d 145 [.ref 178, .ref 39] (SHF, g) ((fun r : Sg => ((none, (SHF, r)) : Out)) r) := by
  obtain ⟨d, rfl⟩ : ∃ d0, d = d0 + 1 := ⟨d - 1, by omega⟩
  have hd : 0 ≤ d := by omega
  refine E_in (f := (fun r : Sg => ((none, (SHF, r)) : Out))) rfl (Nat.le_of_ble_eq_true rfl) ?_
  unfold x_copyInts_c199
  change Lt X d none k_145 _ 0 [some (.ref 178), some (.ref 39)] [] g _
  refine L_s (pc' := 1) rfl rfl ?_
  refine L_ic (pc' := 2) rfl q1_0 rfl ?_
  refine L_s (pc' := 3) rfl rfl ?_
  refine L_ic (pc' := 4) rfl q1_0 rfl ?_
  refine L_s (pc' := 5) rfl rfl ?_
  refine L_s (pc' := 6) (st' := [.int 64, .int 0, .ref 39, .int 0, .ref 178]) rfl rfl ?_
  refine L_s (pc' := 7) rfl rfl ?_
  refine L_s (pc' := 8) (st' := [.int 64, .int 64, .int 0, .ref 39, .int 0, .ref 178]) rfl rfl ?_
  refine L_s (pc' := 11) rfl rfl ?_
  refine L_e (b := 64) (by decide) ?_
  refine L_cp (pc' := 14) rfl sh_178 sh_39 (by decide) (by decide) (by decide) (by decide) rfl rfl ?_
  refine L_let fun g1 _ => ?_
  exact L_ret rfl rfl rfl
def x_copyInts_c200  (g : Sg) : Option (Sg) :=
  lt1 (cp2 g 179 0 40 0 (Int32.toNatClampNeg 64)) (fun g1 => (some g1))
theorem e_x_copyInts_c200 {X : Xx} {d : Nat} (hd : 1 ≤ d)  (g : Sg) : ∀ r, x_copyInts_c200  g = some r → EvM zft mtl X d 145 [.ref 179, .ref 40] (SHF, g) ((fun r : Sg => ((none, (SHF, r)) : Out)) r) := by
  obtain ⟨d, rfl⟩ : ∃ d0, d = d0 + 1 := ⟨d - 1, by omega⟩
  have hd : 0 ≤ d := by omega
  refine E_in (f := (fun r : Sg => ((none, (SHF, r)) : Out))) rfl (Nat.le_of_ble_eq_true rfl) ?_
  unfold x_copyInts_c200
  change Lt X d none k_145 _ 0 [some (.ref 179), some (.ref 40)] [] g _
  refine L_s (pc' := 1) rfl rfl ?_
  refine L_ic (pc' := 2) rfl q1_0 rfl ?_
  refine L_s (pc' := 3) rfl rfl ?_
  refine L_ic (pc' := 4) rfl q1_0 rfl ?_
  refine L_s (pc' := 5) rfl rfl ?_
  refine L_s (pc' := 6) (st' := [.int 64, .int 0, .ref 40, .int 0, .ref 179]) rfl rfl ?_
  refine L_s (pc' := 7) rfl rfl ?_
  refine L_s (pc' := 8) (st' := [.int 64, .int 64, .int 0, .ref 40, .int 0, .ref 179]) rfl rfl ?_
  refine L_s (pc' := 11) rfl rfl ?_
  refine L_e (b := 64) (by decide) ?_
  refine L_cp (pc' := 14) rfl sh_179 sh_40 (by decide) (by decide) (by decide) (by decide) rfl rfl ?_
  refine L_let fun g1 _ => ?_
  exact L_ret rfl rfl rfl
def lines_copyFrom_c6  (g : Sg) : Option (Sg) :=
  lt1 (up2 g 33 0 (g 172 0)) (fun g1 => Option.bind (x_copyInts_c195 g1) (fun g2 => Option.bind (x_copyInts_c196 g2) (fun g3 => Option.bind (x_copyInts_c197 g3) (fun g4 => Option.bind (x_copyFlags_c17 g4) (fun g5 => Option.bind (x_copyInts_c198 g5) (fun g6 => Option.bind (x_copyInts_c199 g6) (fun g7 => Option.bind (x_copyInts_c200 g7) (fun g8 => (some g8)))))))))
theorem e_lines_copyFrom_c6 {X : Xx} {d : Nat} (hd : 2 ≤ d)  (g : Sg) : ∀ r, lines_copyFrom_c6  g = some r → EvM zft mtl X d 20 [.ref 33, .ref 172] (SHF, g) ((fun r : Sg => ((none, (SHF, r)) : Out)) r) := by
  obtain ⟨d, rfl⟩ : ∃ d0, d = d0 + 1 := ⟨d - 1, by omega⟩
  have hd : 1 ≤ d := by omega
  refine E_in (f := (fun r : Sg => ((none, (SHF, r)) : Out))) rfl (Nat.le_of_ble_eq_true rfl) ?_
  unfold lines_copyFrom_c6
  change Lt X d none k_20 _ 0 [some (.ref 33), some (.ref 172)] [] g _
  refine L_s (pc' := 1) rfl rfl ?_
  refine L_s (pc' := 2) rfl rfl ?_
  refine L_gf (pc' := 5) rfl fi_172_0 rfl ?_
  refine L_pf (pc' := 8) rfl sh_33 (by decide) rfl rfl ?_
  refine L_let fun g1 _ => ?_
  refine L_s (pc' := 9) rfl rfl ?_
  refine L_gf (pc' := 12) rfl fr_172_1 rfl ?_
  refine L_s (pc' := 13) rfl rfl ?_
  refine L_gf (pc' := 16) rfl fr_33_1 rfl ?_
  refine L_cv (pc' := 19) (as := [.ref 173, .ref 34]) (rest := []) rfl rfl (e_x_copyInts_c195 (by omega) _) rfl fun g2 => ?_
  refine L_s (pc' := 20) rfl rfl ?_
  refine L_gf (pc' := 23) rfl fr_172_2 rfl ?_
  refine L_s (pc' := 24) rfl rfl ?_
  refine L_gf (pc' := 27) rfl fr_33_2 rfl ?_
  refine L_cv (pc' := 30) (as := [.ref 174, .ref 35]) (rest := []) rfl rfl (e_x_copyInts_c196 (by omega) _) rfl fun g3 => ?_
  refine L_s (pc' := 31) rfl rfl ?_
  refine L_gf (pc' := 34) rfl fr_172_3 rfl ?_
  refine L_s (pc' := 35) rfl rfl ?_
  refine L_gf (pc' := 38) rfl fr_33_3 rfl ?_
  refine L_cv (pc' := 41) (as := [.ref 175, .ref 36]) (rest := []) rfl rfl (e_x_copyInts_c197 (by omega) _) rfl fun g4 => ?_
  refine L_s (pc' := 42) rfl rfl ?_
  refine L_gf (pc' := 45) rfl fr_172_4 rfl ?_
  refine L_s (pc' := 46) rfl rfl ?_
  refine L_gf (pc' := 49) rfl fr_33_4 rfl ?_
  refine L_cv (pc' := 52) (as := [.ref 176, .ref 37]) (rest := []) rfl rfl (e_x_copyFlags_c17 (by omega) _) rfl fun g5 => ?_
  refine L_s (pc' := 53) rfl rfl ?_
  refine L_gf (pc' := 56) rfl fr_172_5 rfl ?_
  refine L_s (pc' := 57) rfl rfl ?_
  refine L_gf (pc' := 60) rfl fr_33_5 rfl ?_
  refine L_cv (pc' := 63) (as := [.ref 177, .ref 38]) (rest := []) rfl rfl (e_x_copyInts_c198 (by omega) _) rfl fun g6 => ?_
  refine L_s (pc' := 64) rfl rfl ?_
  refine L_gf (pc' := 67) rfl fr_172_6 rfl ?_
  refine L_s (pc' := 68) rfl rfl ?_
  refine L_gf (pc' := 71) rfl fr_33_6 rfl ?_
  refine L_cv (pc' := 74) (as := [.ref 178, .ref 39]) (rest := []) rfl rfl (e_x_copyInts_c199 (by omega) _) rfl fun g7 => ?_
  refine L_s (pc' := 75) rfl rfl ?_
  refine L_gf (pc' := 78) rfl fr_172_7 rfl ?_
  refine L_s (pc' := 79) rfl rfl ?_
  refine L_gf (pc' := 82) rfl fr_33_7 rfl ?_
  refine L_cv (pc' := 85) (as := [.ref 179, .ref 40]) (rest := []) rfl rfl (e_x_copyInts_c200 (by omega) _) rfl fun g8 => ?_
  exact L_ret rfl rfl rfl
def x_copyFlags_c18  (g : Sg) : Option (Sg) :=
  lt1 (cp2 g 180 0 41 0 (Int32.toNatClampNeg 100)) (fun g1 => (some g1))
theorem e_x_copyFlags_c18 {X : Xx} {d : Nat} (hd : 1 ≤ d)  (g : Sg) : ∀ r, x_copyFlags_c18  g = some r → EvM zft mtl X d 147 [.ref 180, .ref 41] (SHF, g) ((fun r : Sg => ((none, (SHF, r)) : Out)) r) := by
  obtain ⟨d, rfl⟩ : ∃ d0, d = d0 + 1 := ⟨d - 1, by omega⟩
  have hd : 0 ≤ d := by omega
  refine E_in (f := (fun r : Sg => ((none, (SHF, r)) : Out))) rfl (Nat.le_of_ble_eq_true rfl) ?_
  unfold x_copyFlags_c18
  change Lt X d none k_147 _ 0 [some (.ref 180), some (.ref 41)] [] g _
  refine L_s (pc' := 1) rfl rfl ?_
  refine L_ic (pc' := 2) rfl q1_0 rfl ?_
  refine L_s (pc' := 3) rfl rfl ?_
  refine L_ic (pc' := 4) rfl q1_0 rfl ?_
  refine L_s (pc' := 5) rfl rfl ?_
  refine L_s (pc' := 6) (st' := [.int 100, .int 0, .ref 41, .int 0, .ref 180]) rfl rfl ?_
  refine L_s (pc' := 7) rfl rfl ?_
  refine L_s (pc' := 8) (st' := [.int 100, .int 100, .int 0, .ref 41, .int 0, .ref 180]) rfl rfl ?_
  refine L_s (pc' := 11) rfl rfl ?_
  refine L_e (b := 100) (by decide) ?_
  refine L_cp (pc' := 14) rfl sh_180 sh_41 (by decide) (by decide) (by decide) (by decide) rfl rfl ?_
  refine L_let fun g1 _ => ?_
  exact L_ret rfl rfl rfl
def law_copyFrom_c5  (g : Sg) : Option (Sg) :=
  lt1 (up2 g 31 0 (g 170 0)) (fun g1 => Option.bind (x_copyBytes_c11 g1) (fun g2 => lt1 (up2 g2 31 2 (g2 170 2)) (fun g3 => lt1 (up2 g3 31 3 (g3 170 3)) (fun g4 => Option.bind (lines_copyFrom_c6 g4) (fun g5 => Option.bind (x_copyFlags_c18 g5) (fun g6 => (some g6)))))))
theorem e_law_copyFrom_c5 {X : Xx} {d : Nat} (hd : 3 ≤ d)  (g : Sg) : ∀ r, law_copyFrom_c5  g = some r → EvM zft mtl X d 18 [.ref 31, .ref 170] (SHF, g) ((fun r : Sg => ((none, (SHF, r)) : Out)) r) := by
  obtain ⟨d, rfl⟩ : ∃ d0, d = d0 + 1 := ⟨d - 1, by omega⟩
  have hd : 2 ≤ d := by omega
  refine E_in (f := (fun r : Sg => ((none, (SHF, r)) : Out))) rfl (Nat.le_of_ble_eq_true rfl) ?_
  unfold law_copyFrom_c5
  change Lt X d none k_18 _ 0 [some (.ref 31), some (.ref 170)] [] g _
  refine L_s (pc' := 1) rfl rfl ?_
  refine L_s (pc' := 2) rfl rfl ?_
  refine L_gf (pc' := 5) rfl fi_170_0 rfl ?_
  refine L_pf (pc' := 8) rfl sh_31 (by decide) rfl rfl ?_
  refine L_let fun g1 _ => ?_
  refine L_s (pc' := 9) rfl rfl ?_
  refine L_gf (pc' := 12) rfl fr_170_1 rfl ?_
  refine L_s (pc' := 13) rfl rfl ?_
  refine L_gf (pc' := 16) rfl fr_31_1 rfl ?_
  refine L_cv (pc' := 19) (as := [.ref 171, .ref 32]) (rest := []) rfl rfl (e_x_copyBytes_c11 (by omega) _) rfl fun g2 => ?_
  refine L_s (pc' := 20) rfl rfl ?_
  refine L_s (pc' := 21) rfl rfl ?_
  refine L_gf (pc' := 24) rfl fi_170_2 rfl ?_
  refine L_pf (pc' := 27) rfl sh_31 (by decide) rfl rfl ?_
  refine L_let fun g3 _ => ?_
  refine L_s (pc' := 28) rfl rfl ?_
  refine L_s (pc' := 29) rfl rfl ?_
  refine L_gf (pc' := 32) rfl fi_170_3 rfl ?_
  refine L_pf (pc' := 35) rfl sh_31 (by decide) rfl rfl ?_
  refine L_let fun g4 _ => ?_
  refine L_s (pc' := 36) rfl rfl ?_
  refine L_gf (pc' := 39) rfl fr_31_4 rfl ?_
  refine L_s (pc' := 40) rfl rfl ?_
  refine L_gf (pc' := 43) rfl fr_170_4 rfl ?_
  refine L_cv (pc' := 46) (as := [.ref 33, .ref 172]) (rest := []) rfl rfl (e_lines_copyFrom_c6 (by omega) _) rfl fun g5 => ?_
  refine L_s (pc' := 47) rfl rfl ?_
  refine L_gf (pc' := 50) rfl fr_170_5 rfl ?_
  refine L_s (pc' := 51) rfl rfl ?_
  refine L_gf (pc' := 54) rfl fr_31_5 rfl ?_
  refine L_cv (pc' := 57) (as := [.ref 180, .ref 41]) (rest := []) rfl rfl (e_x_copyFlags_c18 (by omega) _) rfl fun g6 => ?_
  exact L_ret rfl rfl rfl
def x_copyInts_c201  (g : Sg) : Option (Sg) :=
  lt1 (cp2 g 182 0 43 0 (Int32.toNatClampNeg 150)) (fun g1 => (some g1))
theorem e_x_copyInts_c201 {X : Xx} {d : Nat} (hd : 1 ≤ d)  (g : Sg) : ∀ r, x_copyInts_c201  g = some r → EvM zft mtl X d 145 [.ref 182, .ref 43] (SHF, g) ((fun r : Sg => ((none, (SHF, r)) : Out)) r) := by
  obtain ⟨d, rfl⟩ : ∃ d0, d = d0 + 1 := ⟨d - 1, by omega⟩
  have hd : 0 ≤ d := by omega
  refine E_in (f := (fun r : Sg => ((none, (SHF, r)) : Out))) rfl (Nat.le_of_ble_eq_true rfl) ?_
  unfold x_copyInts_c201
  change Lt X d none k_145 _ 0 [some (.ref 182), some (.ref 43)] [] g _
  refine L_s (pc' := 1) rfl rfl ?_
  refine L_ic (pc' := 2) rfl q1_0 rfl ?_
  refine L_s (pc' := 3) rfl rfl ?_
  refine L_ic (pc' := 4) rfl q1_0 rfl ?_
  refine L_s (pc' := 5) rfl rfl ?_
  refine L_s (pc' := 6) (st' := [.int 150, .int 0, .ref 43, .int 0, .ref 182]) rfl rfl ?_
  refine L_s (pc' := 7) rfl rfl ?_
  refine L_s (pc' := 8) (st' := [.int 150, .int 150, .int 0, .ref 43, .int 0, .ref 182]) rfl rfl ?_
  refine L_s (pc' := 11) rfl rfl ?_
  refine L_e (b := 150) (by decide) ?_
  refine L_cp (pc' := 14) rfl sh_182 sh_43 (by decide) (by decide) (by decide) (by decide) rfl rfl ?_
  refine L_let fun g1 _ => ?_
  exact L_ret rfl rfl rfl
def x_copyInts_c202  (g : Sg) : Option (Sg) :=
  lt1 (cp2 g 183 0 44 0 (Int32.toNatClampNeg 150)) (fun g1 => (some g1))
theorem e_x_copyInts_c202 {X : Xx} {d : Nat} (hd : 1 ≤ d)  (g : Sg) : ∀ r, x_copyInts_c202  g = some r → EvM zft mtl X d 145 [.ref 183, .ref 44] (SHF, g) ((fun r : Sg => ((none, (SHF, r)) : Out)) r) := by
  obtain ⟨d, rfl⟩ : ∃ d0, d = d0 + 1 := ⟨d - 1, by omega⟩
  have hd : 0 ≤ d := by omega
  refine E_in (f := (fun r : Sg => ((none, (SHF, r)) : Out))) rfl (Nat.le_of_ble_eq_true rfl) ?_
  unfold x_copyInts_c202
  change Lt X d none k_145 _ 0 [some (.ref 183), some (.ref 44)] [] g _
  refine L_s (pc' := 1) rfl rfl ?_
  refine L_ic (pc' := 2) rfl q1_0 rfl ?_
  refine L_s (pc' := 3) rfl rfl ?_
  refine L_ic (pc' := 4) rfl q1_0 rfl ?_
  refine L_s (pc' := 5) rfl rfl ?_
  refine L_s (pc' := 6) (st' := [.int 150, .int 0, .ref 44, .int 0, .ref 183]) rfl rfl ?_
  refine L_s (pc' := 7) rfl rfl ?_
  refine L_s (pc' := 8) (st' := [.int 150, .int 150, .int 0, .ref 44, .int 0, .ref 183]) rfl rfl ?_
  refine L_s (pc' := 11) rfl rfl ?_
  refine L_e (b := 150) (by decide) ?_
  refine L_cp (pc' := 14) rfl sh_183 sh_44 (by decide) (by decide) (by decide) (by decide) rfl rfl ?_
  refine L_let fun g1 _ => ?_
  exact L_ret rfl rfl rfl
def x_copyInts_c203  (g : Sg) : Option (Sg) :=
  lt1 (cp2 g 184 0 45 0 (Int32.toNatClampNeg 150)) (fun g1 => (some g1))
theorem e_x_copyInts_c203 {X : Xx} {d : Nat} (hd : 1 ≤ d)  (g : Sg) : ∀ r, x_copyInts_c203  g = some r → EvM zft mtl X d 145 [.ref 184, .ref 45] (SHF, g) ((fun r : Sg => ((none, (SHF, r)) : Out)) r) := by
  obtain ⟨d, rfl⟩ : ∃ d0, d = d0 + 1 := ⟨d - 1, by omega⟩
  have hd : 0 ≤ d := by omega
  refine E_in (f := (fun r : Sg => ((none, (SHF, r)) : Out))) rfl (Nat.le_of_ble_eq_true rfl) ?_
  unfold x_copyInts_c203
  change Lt X d none k_145 _ 0 [some (.ref 184), some (.ref 45)] [] g _
  refine L_s (pc' := 1) rfl rfl ?_
  refine L_ic (pc' := 2) rfl q1_0 rfl ?_
  refine L_s (pc' := 3) rfl rfl ?_
  refine L_ic (pc' := 4) rfl q1_0 rfl ?_
  refine L_s (pc' := 5) rfl rfl ?_
  refine L_s (pc' := 6) (st' := [.int 150, .int 0, .ref 45, .int 0, .ref 184]) rfl rfl ?_
  refine L_s (pc' := 7) rfl rfl ?_
  refine L_s (pc' := 8) (st' := [.int 150, .int 150, .int 0, .ref 45, .int 0, .ref 184]) rfl rfl ?_
  refine L_s (pc' := 11) rfl rfl ?_
  refine L_e (b := 150) (by decide) ?_
  refine L_cp (pc' := 14) rfl sh_184 sh_45 (by decide) (by decide) (by decide) (by decide) rfl rfl ?_
  refine L_let fun g1 _ => ?_
  exact L_ret rfl rfl rfl
def x_copyInts_c204  (g : Sg) : Option (Sg) :=
  lt1 (cp2 g 185 0 46 0 (Int32.toNatClampNeg 150)) (fun g1 => (some g1))
theorem e_x_copyInts_c204 {X : Xx} {d : Nat} (hd : 1 ≤ d)  (g : Sg) : ∀ r, x_copyInts_c204  g = some r → EvM zft mtl X d 145 [.ref 185, .ref 46] (SHF, g) ((fun r : Sg => ((none, (SHF, r)) : Out)) r) := by
  obtain ⟨d, rfl⟩ : ∃ d0, d = d0 + 1 := ⟨d - 1, by omega⟩
  have hd : 0 ≤ d := by omega
  refine E_in (f := (fun r : Sg => ((none, (SHF, r)) : Out))) rfl (Nat.le_of_ble_eq_true rfl) ?_
  unfold x_copyInts_c204
  change Lt X d none k_145 _ 0 [some (.ref 185), some (.ref 46)] [] g _
  refine L_s (pc' := 1) rfl rfl ?_
  refine L_ic (pc' := 2) rfl q1_0 rfl ?_
  refine L_s (pc' := 3) rfl rfl ?_
  refine L_ic (pc' := 4) rfl q1_0 rfl ?_
  refine L_s (pc' := 5) rfl rfl ?_
  refine L_s (pc' := 6) (st' := [.int 150, .int 0, .ref 46, .int 0, .ref 185]) rfl rfl ?_
  refine L_s (pc' := 7) rfl rfl ?_
  refine L_s (pc' := 8) (st' := [.int 150, .int 150, .int 0, .ref 46, .int 0, .ref 185]) rfl rfl ?_
  refine L_s (pc' := 11) rfl rfl ?_
  refine L_e (b := 150) (by decide) ?_
  refine L_cp (pc' := 14) rfl sh_185 sh_46 (by decide) (by decide) (by decide) (by decide) rfl rfl ?_
  refine L_let fun g1 _ => ?_
  exact L_ret rfl rfl rfl
def gauges_copyFrom_c5  (g : Sg) : Option (Sg) :=
  lt1 (up2 g 42 0 (g 181 0)) (fun g1 => Option.bind (x_copyInts_c201 g1) (fun g2 => Option.bind (x_copyInts_c202 g2) (fun g3 => Option.bind (x_copyInts_c203 g3) (fun g4 => Option.bind (x_copyInts_c204 g4) (fun g5 => (some g5))))))
theorem e_gauges_copyFrom_c5 {X : Xx} {d : Nat} (hd : 2 ≤ d)  (g : Sg) : ∀ r, gauges_copyFrom_c5  g = some r → EvM zft mtl X d 13 [.ref 42, .ref 181] (SHF, g) ((fun r : Sg => ((none, (SHF, r)) : Out)) r) := by
  obtain ⟨d, rfl⟩ : ∃ d0, d = d0 + 1 := ⟨d - 1, by omega⟩
  have hd : 1 ≤ d := by omega
  refine E_in (f := (fun r : Sg => ((none, (SHF, r)) : Out))) rfl (Nat.le_of_ble_eq_true rfl) ?_
  unfold gauges_copyFrom_c5
  change Lt X d none k_13 _ 0 [some (.ref 42), some (.ref 181)] [] g _
  refine L_s (pc' := 1) rfl rfl ?_
  refine L_s (pc' := 2) rfl rfl ?_
  refine L_gf (pc' := 5) rfl fi_181_0 rfl ?_
  refine L_pf (pc' := 8) rfl sh_42 (by decide) rfl rfl ?_
  refine L_let fun g1 _ => ?_
  refine L_s (pc' := 9) rfl rfl ?_
  refine L_gf (pc' := 12) rfl fr_181_1 rfl ?_
  refine L_s (pc' := 13) rfl rfl ?_
  refine L_gf (pc' := 16) rfl fr_42_1 rfl ?_
  refine L_cv (pc' := 19) (as := [.ref 182, .ref 43]) (rest := []) rfl rfl (e_x_copyInts_c201 (by omega) _) rfl fun g2 => ?_
  refine L_s (pc' := 20) rfl rfl ?_
  refine L_gf (pc' := 23) rfl fr_181_2 rfl ?_
  refine L_s (pc' := 24) rfl rfl ?_
  refine L_gf (pc' := 27) rfl fr_42_2 rfl ?_
  refine L_cv (pc' := 30) (as := [.ref 183, .ref 44]) (rest := []) rfl rfl (e_x_copyInts_c202 (by omega) _) rfl fun g3 => ?_
  refine L_s (pc' := 31) rfl rfl ?_
  refine L_gf (pc' := 34) rfl fr_181_3 rfl ?_
  refine L_s (pc' := 35) rfl rfl ?_
  refine L_gf (pc' := 38) rfl fr_42_3 rfl ?_
  refine L_cv (pc' := 41) (as := [.ref 184, .ref 45]) (rest := []) rfl rfl (e_x_copyInts_c203 (by omega) _) rfl fun g4 => ?_
  refine L_s (pc' := 42) rfl rfl ?_
  refine L_gf (pc' := 45) rfl fr_181_4 rfl ?_
  refine L_s (pc' := 46) rfl rfl ?_
  refine L_gf (pc' := 49) rfl fr_42_4 rfl ?_
  refine L_cv (pc' := 52) (as := [.ref 185, .ref 46]) (rest := []) rfl rfl (e_x_copyInts_c204 (by omega) _) rfl fun g5 => ?_
  exact L_ret rfl rfl rfl
def told_copyFrom_c5  (g : Sg) : Option (Sg) :=
  Option.bind (net_copyFrom_c5 g) (fun g1 => Option.bind (rights_copyFrom_c5 g1) (fun g2 => Option.bind (law_copyFrom_c5 g2) (fun g3 => Option.bind (gauges_copyFrom_c5 g3) (fun g4 => (some g4)))))
theorem e_told_copyFrom_c5 {X : Xx} {d : Nat} (hd : 4 ≤ d)  (g : Sg) : ∀ r, told_copyFrom_c5  g = some r → EvM zft mtl X d 88 [.ref 1, .ref 140] (SHF, g) ((fun r : Sg => ((none, (SHF, r)) : Out)) r) := by
  obtain ⟨d, rfl⟩ : ∃ d0, d = d0 + 1 := ⟨d - 1, by omega⟩
  have hd : 3 ≤ d := by omega
  refine E_in (f := (fun r : Sg => ((none, (SHF, r)) : Out))) rfl (Nat.le_of_ble_eq_true rfl) ?_
  unfold told_copyFrom_c5
  change Lt X d none k_88 _ 0 [some (.ref 1), some (.ref 140)] [] g _
  refine L_s (pc' := 1) rfl rfl ?_
  refine L_gf (pc' := 4) rfl fr_1_0 rfl ?_
  refine L_s (pc' := 5) rfl rfl ?_
  refine L_gf (pc' := 8) rfl fr_140_0 rfl ?_
  refine L_cv (pc' := 11) (as := [.ref 2, .ref 141]) (rest := []) rfl rfl (e_net_copyFrom_c5 (by omega) _) rfl fun g1 => ?_
  refine L_s (pc' := 12) rfl rfl ?_
  refine L_gf (pc' := 15) rfl fr_1_1 rfl ?_
  refine L_s (pc' := 16) rfl rfl ?_
  refine L_gf (pc' := 19) rfl fr_140_1 rfl ?_
  refine L_cv (pc' := 22) (as := [.ref 22, .ref 161]) (rest := []) rfl rfl (e_rights_copyFrom_c5 (by omega) _) rfl fun g2 => ?_
  refine L_s (pc' := 23) rfl rfl ?_
  refine L_gf (pc' := 26) rfl fr_1_2 rfl ?_
  refine L_s (pc' := 27) rfl rfl ?_
  refine L_gf (pc' := 30) rfl fr_140_2 rfl ?_
  refine L_cv (pc' := 33) (as := [.ref 31, .ref 170]) (rest := []) rfl rfl (e_law_copyFrom_c5 (by omega) _) rfl fun g3 => ?_
  refine L_s (pc' := 34) rfl rfl ?_
  refine L_gf (pc' := 37) rfl fr_1_3 rfl ?_
  refine L_s (pc' := 38) rfl rfl ?_
  refine L_gf (pc' := 41) rfl fr_140_3 rfl ?_
  refine L_cv (pc' := 44) (as := [.ref 42, .ref 181]) (rest := []) rfl rfl (e_gauges_copyFrom_c5 (by omega) _) rfl fun g4 => ?_
  exact L_ret rfl rfl rfl
def x_again (v1 : Int32) (g : Sg) : Option (Int32 × Sg) :=
  (if v1 = 0 then
    Option.bind (x_within 0 0 2 g) (fun x1 => (if x1 = 0 then
      (some (0, g))
    else
      (if (g 186 0) = 0 then
        (some (0, g))
      else
        Option.bind (told_copyFrom_c3 g) (fun g2 => (some (1, g2))))))
  else (if v1 = 1 then
    Option.bind (x_within 1 0 2 g) (fun x3 => (if x3 = 0 then
      (some (0, g))
    else
      (if (g 186 1) = 0 then
        (some (0, g))
      else
        Option.bind (told_copyFrom_c4 g) (fun g4 => (some (1, g4))))))
  else (if v1 = 2 then
    Option.bind (x_within 2 0 2 g) (fun x5 => (if x5 = 0 then
      (some (0, g))
    else
      (if (g 186 2) = 0 then
        (some (0, g))
      else
        Option.bind (told_copyFrom_c5 g) (fun g6 => (some (1, g6))))))
  else Option.bind (x_within v1 0 2 g) (fun x7 => (if x7 = 0 then
    (some (0, g))
  else
    (if inb v1 3 = true then (if (g 186 (Int32.toNatClampNeg v1)) = 0 then
      (some (0, g))
    else
      none) else none))))))
theorem e_x_again {X : Xx} {d : Nat} (hd : 5 ≤ d) (v1 : Int32) (g : Sg) : ∀ r, x_again v1 g = some r → EvM zft mtl X d 138 [.ref 0, .int v1] (SHF, g) ((fun r : Int32 × Sg => ((some (.int r.1), (SHF, r.2)) : Out)) r) := by
  obtain ⟨d, rfl⟩ : ∃ d0, d = d0 + 1 := ⟨d - 1, by omega⟩
  have hd : 4 ≤ d := by omega
  refine E_in (f := (fun r : Int32 × Sg => ((some (.int r.1), (SHF, r.2)) : Out))) rfl (Nat.le_of_ble_eq_true rfl) ?_
  unfold x_again
  change Lt X d (some .boolean) k_138 _ 0 [some (.ref 0), some (.int v1)] [] g _
  refine L_if (fun hs => ?_) (fun _ => ?_)
  · subst hs
    refine L_s (pc' := 1) rfl rfl ?_
    refine L_ic (pc' := 2) rfl q1_0 rfl ?_
    refine L_ic (pc' := 3) rfl q1_2 rfl ?_
    refine L_ci (pc' := 6) (as := [.int 0, .int 0, .int 2]) (rest := []) rfl rfl (e_x_within (by omega) _ _ _ _) rfl fun x1 => ?_
    refine L_br (t := 27) (n := 9) rfl rfl (fun _ => ?_) (fun _ => ?_)
    · refine L_ic (pc' := 28) rfl q1_0 rfl ?_
      exact L_ret rfl (ret_z (by decide)) rfl
    · refine L_s (pc' := 10) rfl rfl ?_
      refine L_gf (pc' := 13) rfl fr_0_2 rfl ?_
      refine L_s (pc' := 14) rfl rfl ?_
      refine L_rBk (pc' := 15) (j := 0) rfl sh_186 (by decide) (by decide) (by decide) (by decide) rfl ?_
      refine L_br (t := 27) (n := 18) rfl rfl (fun _ => ?_) (fun _ => ?_)
      · refine L_ic (pc' := 28) rfl q1_0 rfl ?_
        exact L_ret rfl (ret_z (by decide)) rfl
      · refine L_s (pc' := 19) rfl rfl ?_
        refine L_gf (pc' := 22) rfl fr_0_1 rfl ?_
        refine L_s (pc' := 23) rfl rfl ?_
        refine L_aa (pc' := 24) rfl sh_47 (by decide) (by decide) rfl rfl ?_
        refine L_s (pc' := 29) rfl rfl ?_
        refine L_s (pc' := 30) rfl rfl ?_
        refine L_gf (pc' := 33) rfl fr_0_0 rfl ?_
        refine L_s (pc' := 34) rfl rfl ?_
        refine L_gf (pc' := 37) rfl fr_0_1 rfl ?_
        refine L_s (pc' := 38) rfl rfl ?_
        refine L_aa (pc' := 39) rfl sh_47 (by decide) (by decide) rfl rfl ?_
        refine L_cv (pc' := 42) (as := [.ref 1, .ref 48]) (rest := []) rfl rfl (e_told_copyFrom_c3 (by omega) _) rfl fun g2 => ?_
        refine L_ic (pc' := 43) rfl q1_1 rfl ?_
        exact L_ret rfl (ret_z (by decide)) rfl
  refine L_if (fun hs => ?_) (fun _ => ?_)
  · subst hs
    refine L_s (pc' := 1) rfl rfl ?_
    refine L_ic (pc' := 2) rfl q1_0 rfl ?_
    refine L_ic (pc' := 3) rfl q1_2 rfl ?_
    refine L_ci (pc' := 6) (as := [.int 1, .int 0, .int 2]) (rest := []) rfl rfl (e_x_within (by omega) _ _ _ _) rfl fun x3 => ?_
    refine L_br (t := 27) (n := 9) rfl rfl (fun _ => ?_) (fun _ => ?_)
    · refine L_ic (pc' := 28) rfl q1_0 rfl ?_
      exact L_ret rfl (ret_z (by decide)) rfl
    · refine L_s (pc' := 10) rfl rfl ?_
      refine L_gf (pc' := 13) rfl fr_0_2 rfl ?_
      refine L_s (pc' := 14) rfl rfl ?_
      refine L_rBk (pc' := 15) (j := 1) rfl sh_186 (by decide) (by decide) (by decide) (by decide) rfl ?_
      refine L_br (t := 27) (n := 18) rfl rfl (fun _ => ?_) (fun _ => ?_)
      · refine L_ic (pc' := 28) rfl q1_0 rfl ?_
        exact L_ret rfl (ret_z (by decide)) rfl
      · refine L_s (pc' := 19) rfl rfl ?_
        refine L_gf (pc' := 22) rfl fr_0_1 rfl ?_
        refine L_s (pc' := 23) rfl rfl ?_
        refine L_aa (pc' := 24) rfl sh_47 (by decide) (by decide) rfl rfl ?_
        refine L_s (pc' := 29) rfl rfl ?_
        refine L_s (pc' := 30) rfl rfl ?_
        refine L_gf (pc' := 33) rfl fr_0_0 rfl ?_
        refine L_s (pc' := 34) rfl rfl ?_
        refine L_gf (pc' := 37) rfl fr_0_1 rfl ?_
        refine L_s (pc' := 38) rfl rfl ?_
        refine L_aa (pc' := 39) rfl sh_47 (by decide) (by decide) rfl rfl ?_
        refine L_cv (pc' := 42) (as := [.ref 1, .ref 94]) (rest := []) rfl rfl (e_told_copyFrom_c4 (by omega) _) rfl fun g4 => ?_
        refine L_ic (pc' := 43) rfl q1_1 rfl ?_
        exact L_ret rfl (ret_z (by decide)) rfl
  refine L_if (fun hs => ?_) (fun _ => ?_)
  · subst hs
    refine L_s (pc' := 1) rfl rfl ?_
    refine L_ic (pc' := 2) rfl q1_0 rfl ?_
    refine L_ic (pc' := 3) rfl q1_2 rfl ?_
    refine L_ci (pc' := 6) (as := [.int 2, .int 0, .int 2]) (rest := []) rfl rfl (e_x_within (by omega) _ _ _ _) rfl fun x5 => ?_
    refine L_br (t := 27) (n := 9) rfl rfl (fun _ => ?_) (fun _ => ?_)
    · refine L_ic (pc' := 28) rfl q1_0 rfl ?_
      exact L_ret rfl (ret_z (by decide)) rfl
    · refine L_s (pc' := 10) rfl rfl ?_
      refine L_gf (pc' := 13) rfl fr_0_2 rfl ?_
      refine L_s (pc' := 14) rfl rfl ?_
      refine L_rBk (pc' := 15) (j := 2) rfl sh_186 (by decide) (by decide) (by decide) (by decide) rfl ?_
      refine L_br (t := 27) (n := 18) rfl rfl (fun _ => ?_) (fun _ => ?_)
      · refine L_ic (pc' := 28) rfl q1_0 rfl ?_
        exact L_ret rfl (ret_z (by decide)) rfl
      · refine L_s (pc' := 19) rfl rfl ?_
        refine L_gf (pc' := 22) rfl fr_0_1 rfl ?_
        refine L_s (pc' := 23) rfl rfl ?_
        refine L_aa (pc' := 24) rfl sh_47 (by decide) (by decide) rfl rfl ?_
        refine L_s (pc' := 29) rfl rfl ?_
        refine L_s (pc' := 30) rfl rfl ?_
        refine L_gf (pc' := 33) rfl fr_0_0 rfl ?_
        refine L_s (pc' := 34) rfl rfl ?_
        refine L_gf (pc' := 37) rfl fr_0_1 rfl ?_
        refine L_s (pc' := 38) rfl rfl ?_
        refine L_aa (pc' := 39) rfl sh_47 (by decide) (by decide) rfl rfl ?_
        refine L_cv (pc' := 42) (as := [.ref 1, .ref 140]) (rest := []) rfl rfl (e_told_copyFrom_c5 (by omega) _) rfl fun g6 => ?_
        refine L_ic (pc' := 43) rfl q1_1 rfl ?_
        exact L_ret rfl (ret_z (by decide)) rfl
  refine L_s (pc' := 1) rfl rfl ?_
  refine L_ic (pc' := 2) rfl q1_0 rfl ?_
  refine L_ic (pc' := 3) rfl q1_2 rfl ?_
  refine L_ci (pc' := 6) (as := [.int v1, .int 0, .int 2]) (rest := []) rfl rfl (e_x_within (by omega) _ _ _ _) rfl fun x7 => ?_
  refine L_br (t := 27) (n := 9) rfl rfl (fun _ => ?_) (fun _ => ?_)
  · refine L_ic (pc' := 28) rfl q1_0 rfl ?_
    exact L_ret rfl (ret_z (by decide)) rfl
  · refine L_s (pc' := 10) rfl rfl ?_
    refine L_gf (pc' := 13) rfl fr_0_2 rfl ?_
    refine L_s (pc' := 14) rfl rfl ?_
    refine L_rB (pc' := 15) rfl sh_186 (by decide) (by decide) rfl ?_
    refine L_br (t := 27) (n := 18) rfl rfl (fun _ => ?_) (fun _ => ?_)
    · refine L_ic (pc' := 28) rfl q1_0 rfl ?_
      exact L_ret rfl (ret_z (by decide)) rfl
    · refine L_s (pc' := 19) rfl rfl ?_
      refine L_gf (pc' := 22) rfl fr_0_1 rfl ?_
      refine L_s (pc' := 23) rfl rfl ?_
      exact L_none
def m_isIn (v0 : Int32) (v1 : Int32) (v2 : Int32) (g : Sg) : Option (Int32) :=
  (if v0 < v1 then
    (some 0)
  else
    (if v2 < v0 then
      (some 0)
    else
      (some 1)))
theorem e_m_isIn {X : Xx} {d : Nat} (hd : 1 ≤ d) (v0 : Int32) (v1 : Int32) (v2 : Int32) (g : Sg) : ∀ r, m_isIn v0 v1 v2 g = some r → EvM zft mtl X d 149 [.int v0, .int v1, .int v2] (SHF, g) ((fun r : Int32 => ((some (.int r), (SHF, g)) : Out)) r) := by
  obtain ⟨d, rfl⟩ : ∃ d0, d = d0 + 1 := ⟨d - 1, by omega⟩
  have hd : 0 ≤ d := by omega
  refine E_in (f := (fun r : Int32 => ((some (.int r), (SHF, g)) : Out))) rfl (Nat.le_of_ble_eq_true rfl) ?_
  unfold m_isIn
  change Lt X d (some .boolean) k_149 _ 0 [some (.int v0), some (.int v1), some (.int v2)] [] g _
  refine L_s (pc' := 1) rfl rfl ?_
  refine L_s (pc' := 2) rfl rfl ?_
  refine L_br (t := 14) (n := 5) rfl rfl (fun _ => ?_) (fun _ => ?_)
  · refine L_ic (pc' := 15) rfl q1_0 rfl ?_
    exact L_ret rfl (ret_z (by decide)) rfl
  · refine L_s (pc' := 6) rfl rfl ?_
    refine L_s (pc' := 7) rfl rfl ?_
    refine L_br (t := 14) (n := 10) rfl rfl (fun _ => ?_) (fun _ => ?_)
    · refine L_ic (pc' := 15) rfl q1_0 rfl ?_
      exact L_ret rfl (ret_z (by decide)) rfl
    · refine L_ic (pc' := 11) rfl q1_1 rfl ?_
      refine L_s (pc' := 15) rfl rfl ?_
      exact L_ret rfl (ret_z (by decide)) rfl
def m_maySize (v0 : Int32) (v1 : Int32) (g : Sg) : Option (Int32) :=
  (if ¬ v0 = 0 then
    (if ¬ v0 = 1 then
      (if ¬ v0 = 3 then
        Option.bind (m_isIn v0 2 4 g) (fun x1 => (if x1 = 0 then
          (some 0)
        else
          Option.bind (m_isIn v1 1 99999 g) (fun x2 => (if x2 = 0 then
            (some 0)
          else
            (some 1)))))
      else
        Option.bind (m_isIn v1 1 500 g) (fun x3 => (if x3 = 0 ∨ x3 = 1 then (some x3) else none)))
    else
      (if ¬ v1 = 0 then
        (some 0)
      else
        (some 1)))
  else
    Option.bind (m_isIn v1 0 999 g) (fun x4 => (if x4 = 0 ∨ x4 = 1 then (some x4) else none)))
theorem e_m_maySize {X : Xx} {d : Nat} (hd : 2 ≤ d) (v0 : Int32) (v1 : Int32) (g : Sg) : ∀ r, m_maySize v0 v1 g = some r → EvM zft mtl X d 154 [.int v0, .int v1] (SHF, g) ((fun r : Int32 => ((some (.int r), (SHF, g)) : Out)) r) := by
  obtain ⟨d, rfl⟩ : ∃ d0, d = d0 + 1 := ⟨d - 1, by omega⟩
  have hd : 1 ≤ d := by omega
  refine E_in (f := (fun r : Int32 => ((some (.int r), (SHF, g)) : Out))) rfl (Nat.le_of_ble_eq_true rfl) ?_
  unfold m_maySize
  change Lt X d (some .boolean) k_154 _ 0 [some (.int v0), some (.int v1)] [] g _
  refine L_s (pc' := 1) rfl rfl ?_
  refine L_br (t := 15) (n := 4) rfl rfl (fun _ => ?_) (fun _ => ?_)
  · refine L_s (pc' := 16) rfl rfl ?_
    refine L_ic (pc' := 17) rfl q1_1 rfl ?_
    refine L_br (t := 32) (n := 20) rfl rfl (fun _ => ?_) (fun _ => ?_)
    · refine L_s (pc' := 33) rfl rfl ?_
      refine L_ic (pc' := 34) rfl q1_3 rfl ?_
      refine L_br (t := 48) (n := 37) rfl rfl (fun _ => ?_) (fun _ => ?_)
      · refine L_s (pc' := 49) rfl rfl ?_
        refine L_ic (pc' := 50) rfl q1_2 rfl ?_
        refine L_ic (pc' := 51) rfl q1_4 rfl ?_
        refine L_ci (pc' := 54) (as := [.int v0, .int 2, .int 4]) (rest := []) rfl rfl (e_m_isIn (by omega) _ _ _ _) rfl fun x1 => ?_
        refine L_br (t := 71) (n := 57) rfl rfl (fun _ => ?_) (fun _ => ?_)
        · refine L_ic (pc' := 72) rfl q1_0 rfl ?_
          exact L_ret rfl (ret_z (by decide)) rfl
        · refine L_s (pc' := 58) rfl rfl ?_
          refine L_ic (pc' := 59) rfl q1_1 rfl ?_
          refine L_ldc (pc' := 61) rfl q1_99999 rfl ?_
          refine L_ci (pc' := 64) (as := [.int v1, .int 1, .int 99999]) (rest := []) rfl rfl (e_m_isIn (by omega) _ _ _ _) rfl fun x2 => ?_
          refine L_br (t := 71) (n := 67) rfl rfl (fun _ => ?_) (fun _ => ?_)
          · refine L_ic (pc' := 72) rfl q1_0 rfl ?_
            exact L_ret rfl (ret_z (by decide)) rfl
          · refine L_ic (pc' := 68) rfl q1_1 rfl ?_
            refine L_s (pc' := 72) rfl rfl ?_
            exact L_ret rfl (ret_z (by decide)) rfl
      · refine L_s (pc' := 38) rfl rfl ?_
        refine L_ic (pc' := 39) rfl q1_1 rfl ?_
        refine L_si (pc' := 42) rfl q3_500 rfl ?_
        refine L_ci (pc' := 45) (as := [.int v1, .int 1, .int 500]) (rest := []) rfl rfl (e_m_isIn (by omega) _ _ _ _) rfl fun x3 => ?_
        refine L_s (pc' := 72) rfl rfl ?_
        exact L_g fun h => L_ret rfl (ret_z h) rfl
    · refine L_s (pc' := 21) rfl rfl ?_
      refine L_br (t := 28) (n := 24) rfl rfl (fun _ => ?_) (fun _ => ?_)
      · refine L_ic (pc' := 29) rfl q1_0 rfl ?_
        refine L_s (pc' := 72) rfl rfl ?_
        exact L_ret rfl (ret_z (by decide)) rfl
      · refine L_ic (pc' := 25) rfl q1_1 rfl ?_
        refine L_s (pc' := 72) rfl rfl ?_
        exact L_ret rfl (ret_z (by decide)) rfl
  · refine L_s (pc' := 5) rfl rfl ?_
    refine L_ic (pc' := 6) rfl q1_0 rfl ?_
    refine L_si (pc' := 9) rfl q3_999 rfl ?_
    refine L_ci (pc' := 12) (as := [.int v1, .int 0, .int 999]) (rest := []) rfl rfl (e_m_isIn (by omega) _ _ _ _) rfl fun x4 => ?_
    refine L_s (pc' := 72) rfl rfl ?_
    exact L_g fun h => L_ret rfl (ret_z h) rfl
def m_node (v1 : Int32) (v2 : Int32) (g : Sg) : Option (Int32 × Sg) :=
  (if (g 216 0) = 10 then
    (some ((-1), g))
  else
    Option.bind (m_maySize v1 v2 g) (fun x1 => (if ¬ x1 = 0 then
      lt1 ((140 + (5 * (g 216 0))) : Int32) (fun x2 => (if inb x2 20360 = true then lt1 (up2 g 216 (Int32.toNatClampNeg x2) v1) (fun g3 => (if inb (x2 + 1) 20360 = true then lt1 (up2 g3 216 (Int32.toNatClampNeg (x2 + 1)) v2) (fun g4 => (if inb (x2 + 2) 20360 = true then lt1 (up2 g4 216 (Int32.toNatClampNeg (x2 + 2)) (-1)) (fun g5 => (if inb (x2 + 3) 20360 = true then lt1 (up2 g5 216 (Int32.toNatClampNeg (x2 + 3)) 0) (fun g6 => (if inb (x2 + 4) 20360 = true then lt1 (up2 g6 216 (Int32.toNatClampNeg (x2 + 4)) 0) (fun g7 => lt1 (up2 g7 216 0 ((g7 216 0) + 1)) (fun g8 => (some (((g8 216 0) - 1), g8)))) else none)) else none)) else none)) else none)) else none))
    else
      (some ((-1), g)))))
theorem e_m_node {X : Xx} {d : Nat} (hd : 3 ≤ d) (v1 : Int32) (v2 : Int32) (g : Sg) : ∀ r, m_node v1 v2 g = some r → EvM zft mtl X d 155 [.ref 215, .int v1, .int v2] (SHF, g) ((fun r : Int32 × Sg => ((some (.int r.1), (SHF, r.2)) : Out)) r) := by
  obtain ⟨d, rfl⟩ : ∃ d0, d = d0 + 1 := ⟨d - 1, by omega⟩
  have hd : 2 ≤ d := by omega
  refine E_in (f := (fun r : Int32 × Sg => ((some (.int r.1), (SHF, r.2)) : Out))) rfl (Nat.le_of_ble_eq_true rfl) ?_
  unfold m_node
  change Lt X d (some .int) k_155 _ 0 [some (.ref 215), some (.int v1), some (.int v2), none] [] g _
  refine L_s (pc' := 1) rfl rfl ?_
  refine L_gf (pc' := 4) rfl fr_215_0 rfl ?_
  refine L_ic (pc' := 5) rfl q1_0 rfl ?_
  refine L_rIk (pc' := 6) (j := 0) rfl sh_216 (by decide) (by decide) (by decide) rfl ?_
  refine L_bi (pc' := 8) rfl q2_10 rfl ?_
  refine L_br (t := 19) (n := 11) rfl rfl (fun _ => ?_) (fun _ => ?_)
  · refine L_ic (pc' := 20) rfl q1_m1 rfl ?_
    exact L_ret rfl ret_i rfl
  · refine L_s (pc' := 12) rfl rfl ?_
    refine L_s (pc' := 13) rfl rfl ?_
    refine L_ci (pc' := 16) (as := [.int v1, .int v2]) (rest := []) rfl rfl (e_m_maySize (by omega) _ _ _) rfl fun x1 => ?_
    refine L_br (t := 21) (n := 19) rfl rfl (fun _ => ?_) (fun _ => ?_)
    · refine L_si (pc' := 24) rfl q3_140 rfl ?_
      refine L_ic (pc' := 25) rfl q1_5 rfl ?_
      refine L_s (pc' := 26) rfl rfl ?_
      refine L_gf (pc' := 29) rfl fr_215_0 rfl ?_
      refine L_ic (pc' := 30) rfl q1_0 rfl ?_
      refine L_rIk (pc' := 31) (j := 0) rfl sh_216 (by decide) (by decide) (by decide) rfl ?_
      refine L_s (pc' := 32) rfl rfl ?_
      refine L_s (pc' := 33) rfl rfl ?_
      refine L_li fun x2 _ => ?_
      refine L_s (pc' := 34) (L' := [some (.ref 215), some (.int v1), some (.int v2), some (.int x2)]) rfl rfl ?_
      refine L_s (pc' := 35) rfl rfl ?_
      refine L_gf (pc' := 38) rfl fr_215_0 rfl ?_
      refine L_s (pc' := 39) rfl rfl ?_
      refine L_s (pc' := 40) rfl rfl ?_
      refine L_wI (pc' := 41) rfl sh_216 (by decide) rfl ?_
      refine L_let fun g3 _ => ?_
      refine L_s (pc' := 42) rfl rfl ?_
      refine L_gf (pc' := 45) rfl fr_215_0 rfl ?_
      refine L_s (pc' := 46) rfl rfl ?_
      refine L_ic (pc' := 47) rfl q1_1 rfl ?_
      refine L_s (pc' := 48) rfl rfl ?_
      refine L_s (pc' := 49) rfl rfl ?_
      refine L_wI (pc' := 50) rfl sh_216 (by decide) rfl ?_
      refine L_let fun g4 _ => ?_
      refine L_s (pc' := 51) rfl rfl ?_
      refine L_gf (pc' := 54) rfl fr_215_0 rfl ?_
      refine L_s (pc' := 55) rfl rfl ?_
      refine L_ic (pc' := 56) rfl q1_2 rfl ?_
      refine L_s (pc' := 57) rfl rfl ?_
      refine L_ic (pc' := 58) rfl q1_m1 rfl ?_
      refine L_wI (pc' := 59) rfl sh_216 (by decide) rfl ?_
      refine L_let fun g5 _ => ?_
      refine L_s (pc' := 60) rfl rfl ?_
      refine L_gf (pc' := 63) rfl fr_215_0 rfl ?_
      refine L_s (pc' := 64) rfl rfl ?_
      refine L_ic (pc' := 65) rfl q1_3 rfl ?_
      refine L_s (pc' := 66) rfl rfl ?_
      refine L_ic (pc' := 67) rfl q1_0 rfl ?_
      refine L_wI (pc' := 68) rfl sh_216 (by decide) rfl ?_
      refine L_let fun g6 _ => ?_
      refine L_s (pc' := 69) rfl rfl ?_
      refine L_gf (pc' := 72) rfl fr_215_0 rfl ?_
      refine L_s (pc' := 73) rfl rfl ?_
      refine L_ic (pc' := 74) rfl q1_4 rfl ?_
      refine L_s (pc' := 75) rfl rfl ?_
      refine L_ic (pc' := 76) rfl q1_0 rfl ?_
      refine L_wI (pc' := 77) rfl sh_216 (by decide) rfl ?_
      refine L_let fun g7 _ => ?_
      refine L_s (pc' := 78) rfl rfl ?_
      refine L_gf (pc' := 81) rfl fr_215_0 rfl ?_
      refine L_ic (pc' := 82) rfl q1_0 rfl ?_
      refine L_s (pc' := 83) rfl rfl ?_
      refine L_rIk (pc' := 84) (j := 0) rfl sh_216 (by decide) (by decide) (by decide) rfl ?_
      refine L_ic (pc' := 85) rfl q1_1 rfl ?_
      refine L_s (pc' := 86) rfl rfl ?_
      refine L_wIk (pc' := 87) (j := 0) rfl sh_216 (by decide) (by decide) (by decide) rfl ?_
      refine L_let fun g8 _ => ?_
      refine L_s (pc' := 88) rfl rfl ?_
      refine L_gf (pc' := 91) rfl fr_215_0 rfl ?_
      refine L_ic (pc' := 92) rfl q1_0 rfl ?_
      refine L_rIk (pc' := 93) (j := 0) rfl sh_216 (by decide) (by decide) (by decide) rfl ?_
      refine L_ic (pc' := 94) rfl q1_1 rfl ?_
      refine L_s (pc' := 95) rfl rfl ?_
      exact L_ret rfl ret_i rfl
    · refine L_ic (pc' := 20) rfl q1_m1 rfl ?_
      exact L_ret rfl ret_i rfl
def m_isOf_k0 (v1 : Int32) (g : Sg) : Option (Int32) :=
  Option.bind (m_isIn v1 0 ((g 216 0) - 1) g) (fun x1 => (if x1 = 0 ∨ x1 = 1 then (some x1) else none))
theorem e_m_isOf_k0 {X : Xx} {d : Nat} (hd : 2 ≤ d) (v1 : Int32) (g : Sg) : ∀ r, m_isOf_k0 v1 g = some r → EvM zft mtl X d 150 [.ref 215, .int v1, .int 0] (SHF, g) ((fun r : Int32 => ((some (.int r), (SHF, g)) : Out)) r) := by
  obtain ⟨d, rfl⟩ : ∃ d0, d = d0 + 1 := ⟨d - 1, by omega⟩
  have hd : 1 ≤ d := by omega
  refine E_in (f := (fun r : Int32 => ((some (.int r), (SHF, g)) : Out))) rfl (Nat.le_of_ble_eq_true rfl) ?_
  unfold m_isOf_k0
  change Lt X d (some .boolean) k_150 _ 0 [some (.ref 215), some (.int v1), some (.int 0)] [] g _
  refine L_s (pc' := 1) rfl rfl ?_
  refine L_ic (pc' := 2) rfl q1_0 rfl ?_
  refine L_s (pc' := 3) rfl rfl ?_
  refine L_gf (pc' := 6) rfl fr_215_0 rfl ?_
  refine L_s (pc' := 7) rfl rfl ?_
  refine L_rIk (pc' := 8) (j := 0) rfl sh_216 (by decide) (by decide) (by decide) rfl ?_
  refine L_ic (pc' := 9) rfl q1_1 rfl ?_
  refine L_s (pc' := 10) rfl rfl ?_
  refine L_ci (pc' := 13) (as := [.int v1, .int 0, .int ((g 216 0) - 1)]) (rest := []) rfl rfl (e_m_isIn (by omega) _ _ _ _) rfl fun x1 => ?_
  exact L_g fun h => L_ret rfl (ret_z h) rfl
def m_nodeOf_k0 (v1 : Int32) (g : Sg) : Option (Int32) :=
  (if inb ((140 + (5 * v1)) + 0) 20360 = true then (some (g 216 (Int32.toNatClampNeg ((140 + (5 * v1)) + 0)))) else none)
theorem e_m_nodeOf_k0 {X : Xx} {d : Nat} (hd : 1 ≤ d) (v1 : Int32) (g : Sg) : ∀ r, m_nodeOf_k0 v1 g = some r → EvM zft mtl X d 152 [.ref 215, .int v1, .int 0] (SHF, g) ((fun r : Int32 => ((some (.int r), (SHF, g)) : Out)) r) := by
  obtain ⟨d, rfl⟩ : ∃ d0, d = d0 + 1 := ⟨d - 1, by omega⟩
  have hd : 0 ≤ d := by omega
  refine E_in (f := (fun r : Int32 => ((some (.int r), (SHF, g)) : Out))) rfl (Nat.le_of_ble_eq_true rfl) ?_
  unfold m_nodeOf_k0
  change Lt X d (some .int) k_152 _ 0 [some (.ref 215), some (.int v1), some (.int 0)] [] g _
  refine L_s (pc' := 1) rfl rfl ?_
  refine L_gf (pc' := 4) rfl fr_215_0 rfl ?_
  refine L_si (pc' := 7) rfl q3_140 rfl ?_
  refine L_ic (pc' := 8) rfl q1_5 rfl ?_
  refine L_s (pc' := 9) rfl rfl ?_
  refine L_s (pc' := 10) rfl rfl ?_
  refine L_s (pc' := 11) rfl rfl ?_
  refine L_s (pc' := 12) rfl rfl ?_
  refine L_s (pc' := 13) rfl rfl ?_
  refine L_rI (pc' := 14) rfl sh_216 (by decide) rfl ?_
  exact L_ret rfl ret_i rfl
def m_channel (v1 : Int32) (v2 : Int32) (v3 : Int32) (v4 : Int32) (v5 : Int32) (v6 : Int32) (g : Sg) : Option (Int32 × Sg) :=
  (if (g 216 1) = 14 then
    (some ((-1), g))
  else
    Option.bind (m_isOf_k0 v1 g) (fun x1 => (if x1 = 0 then
      (some ((-1), g))
    else
      Option.bind (m_isOf_k0 v2 g) (fun x2 => (if x2 = 0 then
        (some ((-1), g))
      else
        (if v2 ≤ v1 then
          (some ((-1), g))
        else
          Option.bind (m_nodeOf_k0 v1 g) (fun x3 => (if x3 = 4 then
            (some ((-1), g))
          else
            Option.bind (m_isIn v3 0 500 g) (fun x4 => (if x4 = 0 then
              (some ((-1), g))
            else
              Option.bind (m_isIn v4 v3 500 g) (fun x5 => (if x5 = 0 then
                (some ((-1), g))
              else
                Option.bind (m_isIn v5 0 8 g) (fun x6 => (if x6 = 0 then
                  (some ((-1), g))
                else
                  Option.bind (m_isIn v6 1 9999 g) (fun x7 => (if ¬ x7 = 0 then
                    lt1 ((190 + (7 * (g 216 1))) : Int32) (fun x8 => (if inb x8 20360 = true then lt1 (up2 g 216 (Int32.toNatClampNeg x8) v1) (fun g9 => (if inb (x8 + 1) 20360 = true then lt1 (up2 g9 216 (Int32.toNatClampNeg (x8 + 1)) v2) (fun g10 => (if inb (x8 + 2) 20360 = true then lt1 (up2 g10 216 (Int32.toNatClampNeg (x8 + 2)) v3) (fun g11 => (if inb (x8 + 3) 20360 = true then lt1 (up2 g11 216 (Int32.toNatClampNeg (x8 + 3)) v4) (fun g12 => (if inb (x8 + 4) 20360 = true then lt1 (up2 g12 216 (Int32.toNatClampNeg (x8 + 4)) v5) (fun g13 => (if inb (x8 + 5) 20360 = true then lt1 (up2 g13 216 (Int32.toNatClampNeg (x8 + 5)) v6) (fun g14 => (if inb (x8 + 6) 20360 = true then lt1 (up2 g14 216 (Int32.toNatClampNeg (x8 + 6)) 0) (fun g15 => lt1 (up2 g15 216 1 ((g15 216 1) + 1)) (fun g16 => (some (((g16 216 1) - 1), g16)))) else none)) else none)) else none)) else none)) else none)) else none)) else none))
                  else
                    (some ((-1), g))))))))))))))))))
theorem e_m_channel {X : Xx} {d : Nat} (hd : 3 ≤ d) (v1 : Int32) (v2 : Int32) (v3 : Int32) (v4 : Int32) (v5 : Int32) (v6 : Int32) (g : Sg) : ∀ r, m_channel v1 v2 v3 v4 v5 v6 g = some r → EvM zft mtl X d 156 [.ref 215, .int v1, .int v2, .int v3, .int v4, .int v5, .int v6] (SHF, g) ((fun r : Int32 × Sg => ((some (.int r.1), (SHF, r.2)) : Out)) r) := by
  obtain ⟨d, rfl⟩ : ∃ d0, d = d0 + 1 := ⟨d - 1, by omega⟩
  have hd : 2 ≤ d := by omega
  refine E_in (f := (fun r : Int32 × Sg => ((some (.int r.1), (SHF, r.2)) : Out))) rfl (Nat.le_of_ble_eq_true rfl) ?_
  unfold m_channel
  change Lt X d (some .int) k_156 _ 0 [some (.ref 215), some (.int v1), some (.int v2), some (.int v3), some (.int v4), some (.int v5), some (.int v6), none] [] g _
  refine L_s (pc' := 1) rfl rfl ?_
  refine L_gf (pc' := 4) rfl fr_215_0 rfl ?_
  refine L_ic (pc' := 5) rfl q1_1 rfl ?_
  refine L_rIk (pc' := 6) (j := 1) rfl sh_216 (by decide) (by decide) (by decide) rfl ?_
  refine L_bi (pc' := 8) rfl q2_14 rfl ?_
  refine L_br (t := 90) (n := 11) rfl rfl (fun _ => ?_) (fun _ => ?_)
  · refine L_ic (pc' := 91) rfl q1_m1 rfl ?_
    exact L_ret rfl ret_i rfl
  · refine L_s (pc' := 12) rfl rfl ?_
    refine L_s (pc' := 13) rfl rfl ?_
    refine L_ic (pc' := 14) rfl q1_0 rfl ?_
    refine L_ci (pc' := 17) (as := [.ref 215, .int v1, .int 0]) (rest := []) rfl rfl (e_m_isOf_k0 (by omega) _ _) rfl fun x1 => ?_
    refine L_br (t := 90) (n := 20) rfl rfl (fun _ => ?_) (fun _ => ?_)
    · refine L_ic (pc' := 91) rfl q1_m1 rfl ?_
      exact L_ret rfl ret_i rfl
    · refine L_s (pc' := 21) rfl rfl ?_
      refine L_s (pc' := 22) rfl rfl ?_
      refine L_ic (pc' := 23) rfl q1_0 rfl ?_
      refine L_ci (pc' := 26) (as := [.ref 215, .int v2, .int 0]) (rest := []) rfl rfl (e_m_isOf_k0 (by omega) _ _) rfl fun x2 => ?_
      refine L_br (t := 90) (n := 29) rfl rfl (fun _ => ?_) (fun _ => ?_)
      · refine L_ic (pc' := 91) rfl q1_m1 rfl ?_
        exact L_ret rfl ret_i rfl
      · refine L_s (pc' := 30) rfl rfl ?_
        refine L_s (pc' := 31) rfl rfl ?_
        refine L_br (t := 90) (n := 34) rfl rfl (fun _ => ?_) (fun _ => ?_)
        · refine L_ic (pc' := 91) rfl q1_m1 rfl ?_
          exact L_ret rfl ret_i rfl
        · refine L_s (pc' := 35) rfl rfl ?_
          refine L_s (pc' := 36) rfl rfl ?_
          refine L_ic (pc' := 37) rfl q1_0 rfl ?_
          refine L_ci (pc' := 40) (as := [.ref 215, .int v1, .int 0]) (rest := []) rfl rfl (e_m_nodeOf_k0 (by omega) _ _) rfl fun x3 => ?_
          refine L_ic (pc' := 41) rfl q1_4 rfl ?_
          refine L_br (t := 90) (n := 44) rfl rfl (fun _ => ?_) (fun _ => ?_)
          · refine L_ic (pc' := 91) rfl q1_m1 rfl ?_
            exact L_ret rfl ret_i rfl
          · refine L_s (pc' := 45) rfl rfl ?_
            refine L_ic (pc' := 46) rfl q1_0 rfl ?_
            refine L_si (pc' := 49) rfl q3_500 rfl ?_
            refine L_ci (pc' := 52) (as := [.int v3, .int 0, .int 500]) (rest := []) rfl rfl (e_m_isIn (by omega) _ _ _ _) rfl fun x4 => ?_
            refine L_br (t := 90) (n := 55) rfl rfl (fun _ => ?_) (fun _ => ?_)
            · refine L_ic (pc' := 91) rfl q1_m1 rfl ?_
              exact L_ret rfl ret_i rfl
            · refine L_s (pc' := 57) rfl rfl ?_
              refine L_s (pc' := 58) rfl rfl ?_
              refine L_si (pc' := 61) rfl q3_500 rfl ?_
              refine L_ci (pc' := 64) (as := [.int v4, .int v3, .int 500]) (rest := []) rfl rfl (e_m_isIn (by omega) _ _ _ _) rfl fun x5 => ?_
              refine L_br (t := 90) (n := 67) rfl rfl (fun _ => ?_) (fun _ => ?_)
              · refine L_ic (pc' := 91) rfl q1_m1 rfl ?_
                exact L_ret rfl ret_i rfl
              · refine L_s (pc' := 69) rfl rfl ?_
                refine L_ic (pc' := 70) rfl q1_0 rfl ?_
                refine L_bi (pc' := 72) rfl q2_8 rfl ?_
                refine L_ci (pc' := 75) (as := [.int v5, .int 0, .int 8]) (rest := []) rfl rfl (e_m_isIn (by omega) _ _ _ _) rfl fun x6 => ?_
                refine L_br (t := 90) (n := 78) rfl rfl (fun _ => ?_) (fun _ => ?_)
                · refine L_ic (pc' := 91) rfl q1_m1 rfl ?_
                  exact L_ret rfl ret_i rfl
                · refine L_s (pc' := 80) rfl rfl ?_
                  refine L_ic (pc' := 81) rfl q1_1 rfl ?_
                  refine L_si (pc' := 84) rfl q3_9999 rfl ?_
                  refine L_ci (pc' := 87) (as := [.int v6, .int 1, .int 9999]) (rest := []) rfl rfl (e_m_isIn (by omega) _ _ _ _) rfl fun x7 => ?_
                  refine L_br (t := 92) (n := 90) rfl rfl (fun _ => ?_) (fun _ => ?_)
                  · refine L_si (pc' := 95) rfl q3_190 rfl ?_
                    refine L_bi (pc' := 97) rfl q2_7 rfl ?_
                    refine L_s (pc' := 98) rfl rfl ?_
                    refine L_gf (pc' := 101) rfl fr_215_0 rfl ?_
                    refine L_ic (pc' := 102) rfl q1_1 rfl ?_
                    refine L_rIk (pc' := 103) (j := 1) rfl sh_216 (by decide) (by decide) (by decide) rfl ?_
                    refine L_s (pc' := 104) rfl rfl ?_
                    refine L_s (pc' := 105) rfl rfl ?_
                    refine L_li fun x8 _ => ?_
                    refine L_s (pc' := 107) (L' := [some (.ref 215), some (.int v1), some (.int v2), some (.int v3), some (.int v4), some (.int v5), some (.int v6), some (.int x8)]) rfl rfl ?_
                    refine L_s (pc' := 108) rfl rfl ?_
                    refine L_gf (pc' := 111) rfl fr_215_0 rfl ?_
                    refine L_s (pc' := 113) rfl rfl ?_
                    refine L_s (pc' := 114) rfl rfl ?_
                    refine L_wI (pc' := 115) rfl sh_216 (by decide) rfl ?_
                    refine L_let fun g9 _ => ?_
                    refine L_s (pc' := 116) rfl rfl ?_
                    refine L_gf (pc' := 119) rfl fr_215_0 rfl ?_
                    refine L_s (pc' := 121) rfl rfl ?_
                    refine L_ic (pc' := 122) rfl q1_1 rfl ?_
                    refine L_s (pc' := 123) rfl rfl ?_
                    refine L_s (pc' := 124) rfl rfl ?_
                    refine L_wI (pc' := 125) rfl sh_216 (by decide) rfl ?_
                    refine L_let fun g10 _ => ?_
                    refine L_s (pc' := 126) rfl rfl ?_
                    refine L_gf (pc' := 129) rfl fr_215_0 rfl ?_
                    refine L_s (pc' := 131) rfl rfl ?_
                    refine L_ic (pc' := 132) rfl q1_2 rfl ?_
                    refine L_s (pc' := 133) rfl rfl ?_
                    refine L_s (pc' := 134) rfl rfl ?_
                    refine L_wI (pc' := 135) rfl sh_216 (by decide) rfl ?_
                    refine L_let fun g11 _ => ?_
                    refine L_s (pc' := 136) rfl rfl ?_
                    refine L_gf (pc' := 139) rfl fr_215_0 rfl ?_
                    refine L_s (pc' := 141) rfl rfl ?_
                    refine L_ic (pc' := 142) rfl q1_3 rfl ?_
                    refine L_s (pc' := 143) rfl rfl ?_
                    refine L_s (pc' := 145) rfl rfl ?_
                    refine L_wI (pc' := 146) rfl sh_216 (by decide) rfl ?_
                    refine L_let fun g12 _ => ?_
                    refine L_s (pc' := 147) rfl rfl ?_
                    refine L_gf (pc' := 150) rfl fr_215_0 rfl ?_
                    refine L_s (pc' := 152) rfl rfl ?_
                    refine L_ic (pc' := 153) rfl q1_4 rfl ?_
                    refine L_s (pc' := 154) rfl rfl ?_
                    refine L_s (pc' := 156) rfl rfl ?_
                    refine L_wI (pc' := 157) rfl sh_216 (by decide) rfl ?_
                    refine L_let fun g13 _ => ?_
                    refine L_s (pc' := 158) rfl rfl ?_
                    refine L_gf (pc' := 161) rfl fr_215_0 rfl ?_
                    refine L_s (pc' := 163) rfl rfl ?_
                    refine L_ic (pc' := 164) rfl q1_5 rfl ?_
                    refine L_s (pc' := 165) rfl rfl ?_
                    refine L_s (pc' := 167) rfl rfl ?_
                    refine L_wI (pc' := 168) rfl sh_216 (by decide) rfl ?_
                    refine L_let fun g14 _ => ?_
                    refine L_s (pc' := 169) rfl rfl ?_
                    refine L_gf (pc' := 172) rfl fr_215_0 rfl ?_
                    refine L_s (pc' := 174) rfl rfl ?_
                    refine L_bi (pc' := 176) rfl q2_6 rfl ?_
                    refine L_s (pc' := 177) rfl rfl ?_
                    refine L_ic (pc' := 178) rfl q1_0 rfl ?_
                    refine L_wI (pc' := 179) rfl sh_216 (by decide) rfl ?_
                    refine L_let fun g15 _ => ?_
                    refine L_s (pc' := 180) rfl rfl ?_
                    refine L_gf (pc' := 183) rfl fr_215_0 rfl ?_
                    refine L_ic (pc' := 184) rfl q1_1 rfl ?_
                    refine L_s (pc' := 185) rfl rfl ?_
                    refine L_rIk (pc' := 186) (j := 1) rfl sh_216 (by decide) (by decide) (by decide) rfl ?_
                    refine L_ic (pc' := 187) rfl q1_1 rfl ?_
                    refine L_s (pc' := 188) rfl rfl ?_
                    refine L_wIk (pc' := 189) (j := 1) rfl sh_216 (by decide) (by decide) (by decide) rfl ?_
                    refine L_let fun g16 _ => ?_
                    refine L_s (pc' := 190) rfl rfl ?_
                    refine L_gf (pc' := 193) rfl fr_215_0 rfl ?_
                    refine L_ic (pc' := 194) rfl q1_1 rfl ?_
                    refine L_rIk (pc' := 195) (j := 1) rfl sh_216 (by decide) (by decide) (by decide) rfl ?_
                    refine L_ic (pc' := 196) rfl q1_1 rfl ?_
                    refine L_s (pc' := 197) rfl rfl ?_
                    exact L_ret rfl ret_i rfl
                  · refine L_ic (pc' := 91) rfl q1_m1 rfl ?_
                    exact L_ret rfl ret_i rfl
def m_nodeOf_k4 (v1 : Int32) (g : Sg) : Option (Int32) :=
  (if inb ((140 + (5 * v1)) + 4) 20360 = true then (some (g 216 (Int32.toNatClampNeg ((140 + (5 * v1)) + 4)))) else none)
theorem e_m_nodeOf_k4 {X : Xx} {d : Nat} (hd : 1 ≤ d) (v1 : Int32) (g : Sg) : ∀ r, m_nodeOf_k4 v1 g = some r → EvM zft mtl X d 152 [.ref 215, .int v1, .int 4] (SHF, g) ((fun r : Int32 => ((some (.int r), (SHF, g)) : Out)) r) := by
  obtain ⟨d, rfl⟩ : ∃ d0, d = d0 + 1 := ⟨d - 1, by omega⟩
  have hd : 0 ≤ d := by omega
  refine E_in (f := (fun r : Int32 => ((some (.int r), (SHF, g)) : Out))) rfl (Nat.le_of_ble_eq_true rfl) ?_
  unfold m_nodeOf_k4
  change Lt X d (some .int) k_152 _ 0 [some (.ref 215), some (.int v1), some (.int 4)] [] g _
  refine L_s (pc' := 1) rfl rfl ?_
  refine L_gf (pc' := 4) rfl fr_215_0 rfl ?_
  refine L_si (pc' := 7) rfl q3_140 rfl ?_
  refine L_ic (pc' := 8) rfl q1_5 rfl ?_
  refine L_s (pc' := 9) rfl rfl ?_
  refine L_s (pc' := 10) rfl rfl ?_
  refine L_s (pc' := 11) rfl rfl ?_
  refine L_s (pc' := 12) rfl rfl ?_
  refine L_s (pc' := 13) rfl rfl ?_
  refine L_rI (pc' := 14) rfl sh_216 (by decide) rfl ?_
  exact L_ret rfl ret_i rfl
def m_size_44 (v1 : Int32) (v2 : Int32) (g : Sg) : Option (Int32 × Sg) :=
  (if inb ((140 + (5 * v1)) + 1) 20360 = true then lt1 (up2 g 216 (Int32.toNatClampNeg ((140 + (5 * v1)) + 1)) v2) (fun g1 => (some (1, g1))) else none)
def m_size (v1 : Int32) (v2 : Int32) (g : Sg) : Option (Int32 × Sg) :=
  Option.bind (m_isOf_k0 v1 g) (fun x1 => (if x1 = 0 then
    (some (0, g))
  else
    Option.bind (m_nodeOf_k0 v1 g) (fun x2 => Option.bind (m_maySize x2 v2 g) (fun x3 => (if x3 = 0 then
      (some (0, g))
    else
      Option.bind (m_nodeOf_k0 v1 g) (fun x4 => (if ¬ x4 = 2 then
        (m_size_44 v1 v2 g)
      else
        Option.bind (m_nodeOf_k4 v1 g) (fun x5 => (if x5 ≤ v2 then
          (m_size_44 v1 v2 g)
        else
          (some (0, g)))))))))))
theorem p_m_size_44 {X : Xx} {d : Nat} (hd : 2 ≤ d) (v1 : Int32) (v2 : Int32) (g : Sg) : Lt X d (some .boolean) k_157 (fun r : Int32 × Sg => ((some (.int r.1), (SHF, r.2)) : Out)) 44 [some (.ref 215), some (.int v1), some (.int v2)] [] g (m_size_44 v1 v2 g) := by
  unfold m_size_44
  refine L_s (pc' := 45) rfl rfl ?_
  refine L_gf (pc' := 48) rfl fr_215_0 rfl ?_
  refine L_si (pc' := 51) rfl q3_140 rfl ?_
  refine L_ic (pc' := 52) rfl q1_5 rfl ?_
  refine L_s (pc' := 53) rfl rfl ?_
  refine L_s (pc' := 54) rfl rfl ?_
  refine L_s (pc' := 55) rfl rfl ?_
  refine L_ic (pc' := 56) rfl q1_1 rfl ?_
  refine L_s (pc' := 57) rfl rfl ?_
  refine L_s (pc' := 58) rfl rfl ?_
  refine L_wI (pc' := 59) rfl sh_216 (by decide) rfl ?_
  refine L_let fun g1 _ => ?_
  refine L_ic (pc' := 60) rfl q1_1 rfl ?_
  exact L_ret rfl (ret_z (by decide)) rfl
theorem e_m_size {X : Xx} {d : Nat} (hd : 3 ≤ d) (v1 : Int32) (v2 : Int32) (g : Sg) : ∀ r, m_size v1 v2 g = some r → EvM zft mtl X d 157 [.ref 215, .int v1, .int v2] (SHF, g) ((fun r : Int32 × Sg => ((some (.int r.1), (SHF, r.2)) : Out)) r) := by
  obtain ⟨d, rfl⟩ : ∃ d0, d = d0 + 1 := ⟨d - 1, by omega⟩
  have hd : 2 ≤ d := by omega
  refine E_in (f := (fun r : Int32 × Sg => ((some (.int r.1), (SHF, r.2)) : Out))) rfl (Nat.le_of_ble_eq_true rfl) ?_
  unfold m_size
  change Lt X d (some .boolean) k_157 _ 0 [some (.ref 215), some (.int v1), some (.int v2)] [] g _
  refine L_s (pc' := 1) rfl rfl ?_
  refine L_s (pc' := 2) rfl rfl ?_
  refine L_ic (pc' := 3) rfl q1_0 rfl ?_
  refine L_ci (pc' := 6) (as := [.ref 215, .int v1, .int 0]) (rest := []) rfl rfl (e_m_isOf_k0 (by omega) _ _) rfl fun x1 => ?_
  refine L_br (t := 42) (n := 9) rfl rfl (fun _ => ?_) (fun _ => ?_)
  · refine L_ic (pc' := 43) rfl q1_0 rfl ?_
    exact L_ret rfl (ret_z (by decide)) rfl
  · refine L_s (pc' := 10) rfl rfl ?_
    refine L_s (pc' := 11) rfl rfl ?_
    refine L_ic (pc' := 12) rfl q1_0 rfl ?_
    refine L_ci (pc' := 15) (as := [.ref 215, .int v1, .int 0]) (rest := []) rfl rfl (e_m_nodeOf_k0 (by omega) _ _) rfl fun x2 => ?_
    refine L_s (pc' := 16) rfl rfl ?_
    refine L_ci (pc' := 19) (as := [.int x2, .int v2]) (rest := []) rfl rfl (e_m_maySize (by omega) _ _ _) rfl fun x3 => ?_
    refine L_br (t := 42) (n := 22) rfl rfl (fun _ => ?_) (fun _ => ?_)
    · refine L_ic (pc' := 43) rfl q1_0 rfl ?_
      exact L_ret rfl (ret_z (by decide)) rfl
    · refine L_s (pc' := 23) rfl rfl ?_
      refine L_s (pc' := 24) rfl rfl ?_
      refine L_ic (pc' := 25) rfl q1_0 rfl ?_
      refine L_ci (pc' := 28) (as := [.ref 215, .int v1, .int 0]) (rest := []) rfl rfl (e_m_nodeOf_k0 (by omega) _ _) rfl fun x4 => ?_
      refine L_ic (pc' := 29) rfl q1_2 rfl ?_
      refine L_br (t := 44) (n := 32) rfl rfl (fun _ => ?_) (fun _ => ?_)
      · exact p_m_size_44 hd _ _ _
      · refine L_s (pc' := 33) rfl rfl ?_
        refine L_s (pc' := 34) rfl rfl ?_
        refine L_s (pc' := 35) rfl rfl ?_
        refine L_ic (pc' := 36) rfl q1_4 rfl ?_
        refine L_ci (pc' := 39) (as := [.ref 215, .int v1, .int 4]) (rest := [.int v2]) rfl rfl (e_m_nodeOf_k4 (by omega) _ _) rfl fun x5 => ?_
        refine L_br (t := 44) (n := 42) rfl rfl (fun _ => ?_) (fun _ => ?_)
        · exact p_m_size_44 hd _ _ _
        · refine L_ic (pc' := 43) rfl q1_0 rfl ?_
          exact L_ret rfl (ret_z (by decide)) rfl
def m_isOf_k1 (v1 : Int32) (g : Sg) : Option (Int32) :=
  Option.bind (m_isIn v1 0 ((g 216 1) - 1) g) (fun x1 => (if x1 = 0 ∨ x1 = 1 then (some x1) else none))
theorem e_m_isOf_k1 {X : Xx} {d : Nat} (hd : 2 ≤ d) (v1 : Int32) (g : Sg) : ∀ r, m_isOf_k1 v1 g = some r → EvM zft mtl X d 150 [.ref 215, .int v1, .int 1] (SHF, g) ((fun r : Int32 => ((some (.int r), (SHF, g)) : Out)) r) := by
  obtain ⟨d, rfl⟩ : ∃ d0, d = d0 + 1 := ⟨d - 1, by omega⟩
  have hd : 1 ≤ d := by omega
  refine E_in (f := (fun r : Int32 => ((some (.int r), (SHF, g)) : Out))) rfl (Nat.le_of_ble_eq_true rfl) ?_
  unfold m_isOf_k1
  change Lt X d (some .boolean) k_150 _ 0 [some (.ref 215), some (.int v1), some (.int 1)] [] g _
  refine L_s (pc' := 1) rfl rfl ?_
  refine L_ic (pc' := 2) rfl q1_0 rfl ?_
  refine L_s (pc' := 3) rfl rfl ?_
  refine L_gf (pc' := 6) rfl fr_215_0 rfl ?_
  refine L_s (pc' := 7) rfl rfl ?_
  refine L_rIk (pc' := 8) (j := 1) rfl sh_216 (by decide) (by decide) (by decide) rfl ?_
  refine L_ic (pc' := 9) rfl q1_1 rfl ?_
  refine L_s (pc' := 10) rfl rfl ?_
  refine L_ci (pc' := 13) (as := [.int v1, .int 0, .int ((g 216 1) - 1)]) (rest := []) rfl rfl (e_m_isIn (by omega) _ _ _ _) rfl fun x1 => ?_
  exact L_g fun h => L_ret rfl (ret_z h) rfl
def m_channelOf_k6 (v1 : Int32) (g : Sg) : Option (Int32) :=
  (if inb ((190 + (7 * v1)) + 6) 20360 = true then (some (g 216 (Int32.toNatClampNeg ((190 + (7 * v1)) + 6)))) else none)
theorem e_m_channelOf_k6 {X : Xx} {d : Nat} (hd : 1 ≤ d) (v1 : Int32) (g : Sg) : ∀ r, m_channelOf_k6 v1 g = some r → EvM zft mtl X d 153 [.ref 215, .int v1, .int 6] (SHF, g) ((fun r : Int32 => ((some (.int r), (SHF, g)) : Out)) r) := by
  obtain ⟨d, rfl⟩ : ∃ d0, d = d0 + 1 := ⟨d - 1, by omega⟩
  have hd : 0 ≤ d := by omega
  refine E_in (f := (fun r : Int32 => ((some (.int r), (SHF, g)) : Out))) rfl (Nat.le_of_ble_eq_true rfl) ?_
  unfold m_channelOf_k6
  change Lt X d (some .int) k_153 _ 0 [some (.ref 215), some (.int v1), some (.int 6)] [] g _
  refine L_s (pc' := 1) rfl rfl ?_
  refine L_gf (pc' := 4) rfl fr_215_0 rfl ?_
  refine L_si (pc' := 7) rfl q3_190 rfl ?_
  refine L_bi (pc' := 9) rfl q2_7 rfl ?_
  refine L_s (pc' := 10) rfl rfl ?_
  refine L_s (pc' := 11) rfl rfl ?_
  refine L_s (pc' := 12) rfl rfl ?_
  refine L_s (pc' := 13) rfl rfl ?_
  refine L_s (pc' := 14) rfl rfl ?_
  refine L_rI (pc' := 15) rfl sh_216 (by decide) rfl ?_
  exact L_ret rfl ret_i rfl
def m_wayAt_k1 (v2 : Int32) (v3 : Int32) (g : Sg) : Option (Int32) :=
  (some ((290 + (9 * (14 + v2))) + (v3 - v3 / 9 * 9)))
theorem e_m_wayAt_k1 {X : Xx} {d : Nat} (hd : 1 ≤ d) (v2 : Int32) (v3 : Int32) (g : Sg) : ∀ r, m_wayAt_k1 v2 v3 g = some r → EvM zft mtl X d 158 [.ref 215, .int 1, .int v2, .int v3] (SHF, g) ((fun r : Int32 => ((some (.int r), (SHF, g)) : Out)) r) := by
  obtain ⟨d, rfl⟩ : ∃ d0, d = d0 + 1 := ⟨d - 1, by omega⟩
  have hd : 0 ≤ d := by omega
  refine E_in (f := (fun r : Int32 => ((some (.int r), (SHF, g)) : Out))) rfl (Nat.le_of_ble_eq_true rfl) ?_
  unfold m_wayAt_k1
  change Lt X d (some .int) k_158 _ 0 [some (.ref 215), some (.int 1), some (.int v2), some (.int v3)] [] g _
  refine L_si (pc' := 3) rfl q3_290 rfl ?_
  refine L_bi (pc' := 5) rfl q2_9 rfl ?_
  refine L_bi (pc' := 7) rfl q2_14 rfl ?_
  refine L_s (pc' := 8) rfl rfl ?_
  refine L_s (pc' := 9) rfl rfl ?_
  refine L_e (b := 14) (by decide) ?_
  refine L_s (pc' := 10) rfl rfl ?_
  refine L_s (pc' := 11) rfl rfl ?_
  refine L_s (pc' := 12) rfl rfl ?_
  refine L_s (pc' := 13) rfl rfl ?_
  refine L_s (pc' := 14) rfl rfl ?_
  refine L_bi (pc' := 16) rfl q2_9 rfl ?_
  refine L_rmk (pc' := 17) rfl (by decide) rfl ?_
  refine L_s (pc' := 18) rfl rfl ?_
  exact L_ret rfl ret_i rfl
def m_wayAt_k0 (v2 : Int32) (v3 : Int32) (g : Sg) : Option (Int32) :=
  (some ((290 + (9 * (0 + v2))) + (v3 - v3 / 9 * 9)))
theorem e_m_wayAt_k0 {X : Xx} {d : Nat} (hd : 1 ≤ d) (v2 : Int32) (v3 : Int32) (g : Sg) : ∀ r, m_wayAt_k0 v2 v3 g = some r → EvM zft mtl X d 158 [.ref 215, .int 0, .int v2, .int v3] (SHF, g) ((fun r : Int32 => ((some (.int r), (SHF, g)) : Out)) r) := by
  obtain ⟨d, rfl⟩ : ∃ d0, d = d0 + 1 := ⟨d - 1, by omega⟩
  have hd : 0 ≤ d := by omega
  refine E_in (f := (fun r : Int32 => ((some (.int r), (SHF, g)) : Out))) rfl (Nat.le_of_ble_eq_true rfl) ?_
  unfold m_wayAt_k0
  change Lt X d (some .int) k_158 _ 0 [some (.ref 215), some (.int 0), some (.int v2), some (.int v3)] [] g _
  refine L_si (pc' := 3) rfl q3_290 rfl ?_
  refine L_bi (pc' := 5) rfl q2_9 rfl ?_
  refine L_bi (pc' := 7) rfl q2_14 rfl ?_
  refine L_s (pc' := 8) rfl rfl ?_
  refine L_s (pc' := 9) rfl rfl ?_
  refine L_e (b := 0) (by decide) ?_
  refine L_s (pc' := 10) rfl rfl ?_
  refine L_s (pc' := 11) rfl rfl ?_
  refine L_s (pc' := 12) rfl rfl ?_
  refine L_s (pc' := 13) rfl rfl ?_
  refine L_s (pc' := 14) rfl rfl ?_
  refine L_bi (pc' := 16) rfl q2_9 rfl ?_
  refine L_rmk (pc' := 17) rfl (by decide) rfl ?_
  refine L_s (pc' := 18) rfl rfl ?_
  exact L_ret rfl ret_i rfl
def m_broken_70_2 : Nat → Int32 → Int32 → Int32 → Sg → Option (Int32 × Sg)
  | 0, _, _, _, _ => none
  | n + 1, v1, v2, v4, g =>
    (if 9 ≤ v4 then
      (some (1, g))
    else
      Option.bind (m_wayAt_k1 v1 v4 g) (fun x1 => (if inb x1 20360 = true then lt1 (up2 g 216 23 ((g 216 23) + (g 216 (Int32.toNatClampNeg x1)))) (fun g2 => (if inb x1 20360 = true then lt1 (up2 g2 216 20 ((g2 216 20) - (g2 216 (Int32.toNatClampNeg x1)))) (fun g3 => (if inb x1 20360 = true then lt1 (up2 g3 216 (Int32.toNatClampNeg x1) 0) (fun g4 => (m_broken_70_2 n v1 v2 (v4 + 1) g4)) else none)) else none)) else none)))
def m_broken_70 (F : Nat) : Nat → Int32 → Int32 → Int32 → Sg → Option (Int32 × Sg)
  | 0, _, _, _, _ => none
  | n + 1, v1, v2, v4, g =>
    (if 9 ≤ v4 then
      (if v2 = 0 then
        (some (1, g))
      else
        (m_broken_70_2 F v1 v2 0 g))
    else
      Option.bind (m_wayAt_k0 v1 v4 g) (fun x1 => (if inb x1 20360 = true then lt1 (up2 g 216 16 ((g 216 16) + (g 216 (Int32.toNatClampNeg x1)))) (fun g2 => (if inb x1 20360 = true then lt1 (up2 g2 216 13 ((g2 216 13) - (g2 216 (Int32.toNatClampNeg x1)))) (fun g3 => (if inb x1 20360 = true then lt1 (up2 g3 216 (Int32.toNatClampNeg x1) 0) (fun g4 => (m_broken_70 F n v1 v2 (v4 + 1) g4)) else none)) else none)) else none)))
def m_broken_55 (F : Nat) (v1 : Int32) (v2 : Int32) (s0 : Int32) (s1 : Int32) (g : Sg) : Option (Int32 × Sg) :=
  (if inb s1 20360 = true then lt1 (up2 g 216 (Int32.toNatClampNeg s1) s0) (fun g1 => (if v2 = 0 then
    (some (1, g1))
  else
    (m_broken_70 F F v1 v2 0 g1))) else none)
def m_broken_25 (F : Nat) (v1 : Int32) (v2 : Int32) (s0 : Int32) (g : Sg) : Option (Int32 × Sg) :=
  (if ¬ s0 = v2 then
    (if v2 = 0 then
      (m_broken_55 F v1 v2 0 ((190 + (7 * v1)) + 6) g)
    else
      (m_broken_55 F v1 v2 1 ((190 + (7 * v1)) + 6) g))
  else
    (some (0, g)))
def m_broken (F : Nat) (v1 : Int32) (v2 : Int32) (g : Sg) : Option (Int32 × Sg) :=
  Option.bind (m_isOf_k1 v1 g) (fun x1 => (if x1 = 0 then
    (some (0, g))
  else
    Option.bind (m_channelOf_k6 v1 g) (fun x2 => (if ¬ x2 = 1 then
      (m_broken_25 F v1 v2 0 g)
    else
      (m_broken_25 F v1 v2 1 g)))))
theorem p_m_broken_70_2 {X : Xx} {d : Nat} (hd : 2 ≤ d) : ∀ (n : Nat) (v1 : Int32) (v2 : Int32) (v4 : Int32) (g : Sg), Lt X d (some .boolean) k_159 (fun r : Int32 × Sg => ((some (.int r.1), (SHF, r.2)) : Out)) 70 [some (.ref 215), some (.int v1), some (.int v2), some (.int 1), some (.int v4), none] [] g (m_broken_70_2 n v1 v2 v4 g) := by
  intro n
  induction n with
  | zero => intros; exact L_none
  | succ n ih =>
    intro v1 v2 v4 g
    show Lt X d (some .boolean) k_159 (fun r : Int32 × Sg => ((some (.int r.1), (SHF, r.2)) : Out)) 70 [some (.ref 215), some (.int v1), some (.int v2), some (.int 1), some (.int v4), none] [] g (
      (if 9 ≤ v4 then
        (some (1, g))
      else
        Option.bind (m_wayAt_k1 v1 v4 g) (fun x1 => (if inb x1 20360 = true then lt1 (up2 g 216 23 ((g 216 23) + (g 216 (Int32.toNatClampNeg x1)))) (fun g2 => (if inb x1 20360 = true then lt1 (up2 g2 216 20 ((g2 216 20) - (g2 216 (Int32.toNatClampNeg x1)))) (fun g3 => (if inb x1 20360 = true then lt1 (up2 g3 216 (Int32.toNatClampNeg x1) 0) (fun g4 => (m_broken_70_2 n v1 v2 (v4 + 1) g4)) else none)) else none)) else none))))
    refine L_s (pc' := 72) rfl rfl ?_
    refine L_bi (pc' := 74) rfl q2_9 rfl ?_
    refine L_br (t := 150) (n := 77) rfl rfl (fun _ => ?_) (fun _ => ?_)
    · refine L_ii (pc' := 153) (L' := [some (.ref 215), some (.int v1), some (.int v2), some (.int 2), some (.int v4), none]) rfl rfl q1_1 (by decide : (1 : Int32) + 1 = 2) rfl rfl ?_
      refine L_s (pc' := 58) rfl rfl ?_
      refine L_s (pc' := 59) rfl rfl ?_
      refine L_ic (pc' := 60) rfl q1_2 rfl ?_
      refine L_bt (c := (2 : Int32) ≤ 2) (t := 156) (n := 63) rfl rfl (by decide) ?_
      refine L_ic (pc' := 157) rfl q1_1 rfl ?_
      exact L_ret rfl (ret_z (by decide)) rfl
    · refine L_s (pc' := 78) rfl rfl ?_
      refine L_s (pc' := 79) rfl rfl ?_
      refine L_s (pc' := 80) rfl rfl ?_
      refine L_s (pc' := 82) rfl rfl ?_
      refine L_ci (pc' := 85) (as := [.ref 215, .int 1, .int v1, .int v4]) (rest := []) rfl rfl (e_m_wayAt_k1 (by omega) _ _ _) rfl fun x1 => ?_
      refine L_s (pc' := 87) (L' := [some (.ref 215), some (.int v1), some (.int v2), some (.int 1), some (.int v4), some (.int x1)]) rfl rfl ?_
      refine L_s (pc' := 88) rfl rfl ?_
      refine L_gf (pc' := 91) rfl fr_215_0 rfl ?_
      refine L_bi (pc' := 93) rfl q2_10 rfl ?_
      refine L_bi (pc' := 95) rfl q2_7 rfl ?_
      refine L_s (pc' := 96) rfl rfl ?_
      refine L_s (pc' := 97) rfl rfl ?_
      refine L_e (b := 7) (by decide) ?_
      refine L_s (pc' := 98) rfl rfl ?_
      refine L_e (b := 17) (by decide) ?_
      refine L_bi (pc' := 100) rfl q2_6 rfl ?_
      refine L_s (pc' := 101) rfl rfl ?_
      refine L_e (b := 23) (by decide) ?_
      refine L_s (pc' := 102) rfl rfl ?_
      refine L_rIk (pc' := 103) (j := 23) rfl sh_216 (by decide) (by decide) (by decide) rfl ?_
      refine L_s (pc' := 104) rfl rfl ?_
      refine L_gf (pc' := 107) rfl fr_215_0 rfl ?_
      refine L_s (pc' := 109) rfl rfl ?_
      refine L_rI (pc' := 110) rfl sh_216 (by decide) rfl ?_
      refine L_s (pc' := 111) rfl rfl ?_
      refine L_wIk (pc' := 112) (j := 23) rfl sh_216 (by decide) (by decide) (by decide) rfl ?_
      refine L_let fun g2 _ => ?_
      refine L_s (pc' := 113) rfl rfl ?_
      refine L_gf (pc' := 116) rfl fr_215_0 rfl ?_
      refine L_bi (pc' := 118) rfl q2_10 rfl ?_
      refine L_bi (pc' := 120) rfl q2_7 rfl ?_
      refine L_s (pc' := 121) rfl rfl ?_
      refine L_s (pc' := 122) rfl rfl ?_
      refine L_e (b := 7) (by decide) ?_
      refine L_s (pc' := 123) rfl rfl ?_
      refine L_e (b := 17) (by decide) ?_
      refine L_ic (pc' := 124) rfl q1_3 rfl ?_
      refine L_s (pc' := 125) rfl rfl ?_
      refine L_e (b := 20) (by decide) ?_
      refine L_s (pc' := 126) rfl rfl ?_
      refine L_rIk (pc' := 127) (j := 20) rfl sh_216 (by decide) (by decide) (by decide) rfl ?_
      refine L_s (pc' := 128) rfl rfl ?_
      refine L_gf (pc' := 131) rfl fr_215_0 rfl ?_
      refine L_s (pc' := 133) rfl rfl ?_
      refine L_rI (pc' := 134) rfl sh_216 (by decide) rfl ?_
      refine L_s (pc' := 135) rfl rfl ?_
      refine L_wIk (pc' := 136) (j := 20) rfl sh_216 (by decide) (by decide) (by decide) rfl ?_
      refine L_let fun g3 _ => ?_
      refine L_s (pc' := 137) rfl rfl ?_
      refine L_gf (pc' := 140) rfl fr_215_0 rfl ?_
      refine L_s (pc' := 142) rfl rfl ?_
      refine L_ic (pc' := 143) rfl q1_0 rfl ?_
      refine L_wI (pc' := 144) rfl sh_216 (by decide) rfl ?_
      refine L_let fun g4 _ => ?_
      refine L_ii (pc' := 147) (L' := [some (.ref 215), some (.int v1), some (.int v2), some (.int 1), some (.int (v4 + 1)), some (.int x1)]) rfl rfl q1_1 rfl rfl rfl ?_
      refine L_s (pc' := 70) rfl rfl ?_
      refine L_wk (L' := [some (.ref 215), some (.int v1), some (.int v2), some (.int 1), some (.int (v4 + 1)), none]) (wk_s (wk_s (wk_s (wk_s (wk_s (wk_n wk_nil)))))) ?_
      exact ih _ _ _ _
theorem p_m_broken_70 {X : Xx} {d : Nat} (hd : 2 ≤ d) (F : Nat) : ∀ (n : Nat) (v1 : Int32) (v2 : Int32) (v4 : Int32) (g : Sg), Lt X d (some .boolean) k_159 (fun r : Int32 × Sg => ((some (.int r.1), (SHF, r.2)) : Out)) 70 [some (.ref 215), some (.int v1), some (.int v2), some (.int 0), some (.int v4), none] [] g (m_broken_70 F n v1 v2 v4 g) := by
  intro n
  induction n with
  | zero => intros; exact L_none
  | succ n ih =>
    intro v1 v2 v4 g
    show Lt X d (some .boolean) k_159 (fun r : Int32 × Sg => ((some (.int r.1), (SHF, r.2)) : Out)) 70 [some (.ref 215), some (.int v1), some (.int v2), some (.int 0), some (.int v4), none] [] g (
      (if 9 ≤ v4 then
        (if v2 = 0 then
          (some (1, g))
        else
          (m_broken_70_2 F v1 v2 0 g))
      else
        Option.bind (m_wayAt_k0 v1 v4 g) (fun x1 => (if inb x1 20360 = true then lt1 (up2 g 216 16 ((g 216 16) + (g 216 (Int32.toNatClampNeg x1)))) (fun g2 => (if inb x1 20360 = true then lt1 (up2 g2 216 13 ((g2 216 13) - (g2 216 (Int32.toNatClampNeg x1)))) (fun g3 => (if inb x1 20360 = true then lt1 (up2 g3 216 (Int32.toNatClampNeg x1) 0) (fun g4 => (m_broken_70 F n v1 v2 (v4 + 1) g4)) else none)) else none)) else none))))
    refine L_s (pc' := 72) rfl rfl ?_
    refine L_bi (pc' := 74) rfl q2_9 rfl ?_
    refine L_br (t := 150) (n := 77) rfl rfl (fun _ => ?_) (fun _ => ?_)
    · refine L_ii (pc' := 153) (L' := [some (.ref 215), some (.int v1), some (.int v2), some (.int 1), some (.int v4), none]) rfl rfl q1_1 (by decide : (0 : Int32) + 1 = 1) rfl rfl ?_
      refine L_s (pc' := 58) rfl rfl ?_
      refine L_s (pc' := 59) rfl rfl ?_
      refine L_ic (pc' := 60) rfl q1_2 rfl ?_
      refine L_bf (c := (2 : Int32) ≤ 1) (t := 156) (n := 63) rfl rfl (by decide) ?_
      refine L_s (pc' := 64) rfl rfl ?_
      refine L_br (t := 156) (n := 67) rfl rfl (fun _ => ?_) (fun _ => ?_)
      · refine L_ic (pc' := 157) rfl q1_1 rfl ?_
        exact L_ret rfl (ret_z (by decide)) rfl
      · refine L_ic (pc' := 68) rfl q1_0 rfl ?_
        refine L_s (pc' := 70) (L' := [some (.ref 215), some (.int v1), some (.int v2), some (.int 1), some (.int 0), none]) rfl rfl ?_
        exact p_m_broken_70_2 hd F _ _ _ _
    · refine L_s (pc' := 78) rfl rfl ?_
      refine L_s (pc' := 79) rfl rfl ?_
      refine L_s (pc' := 80) rfl rfl ?_
      refine L_s (pc' := 82) rfl rfl ?_
      refine L_ci (pc' := 85) (as := [.ref 215, .int 0, .int v1, .int v4]) (rest := []) rfl rfl (e_m_wayAt_k0 (by omega) _ _ _) rfl fun x1 => ?_
      refine L_s (pc' := 87) (L' := [some (.ref 215), some (.int v1), some (.int v2), some (.int 0), some (.int v4), some (.int x1)]) rfl rfl ?_
      refine L_s (pc' := 88) rfl rfl ?_
      refine L_gf (pc' := 91) rfl fr_215_0 rfl ?_
      refine L_bi (pc' := 93) rfl q2_10 rfl ?_
      refine L_bi (pc' := 95) rfl q2_7 rfl ?_
      refine L_s (pc' := 96) rfl rfl ?_
      refine L_s (pc' := 97) rfl rfl ?_
      refine L_e (b := 0) (by decide) ?_
      refine L_s (pc' := 98) rfl rfl ?_
      refine L_e (b := 10) (by decide) ?_
      refine L_bi (pc' := 100) rfl q2_6 rfl ?_
      refine L_s (pc' := 101) rfl rfl ?_
      refine L_e (b := 16) (by decide) ?_
      refine L_s (pc' := 102) rfl rfl ?_
      refine L_rIk (pc' := 103) (j := 16) rfl sh_216 (by decide) (by decide) (by decide) rfl ?_
      refine L_s (pc' := 104) rfl rfl ?_
      refine L_gf (pc' := 107) rfl fr_215_0 rfl ?_
      refine L_s (pc' := 109) rfl rfl ?_
      refine L_rI (pc' := 110) rfl sh_216 (by decide) rfl ?_
      refine L_s (pc' := 111) rfl rfl ?_
      refine L_wIk (pc' := 112) (j := 16) rfl sh_216 (by decide) (by decide) (by decide) rfl ?_
      refine L_let fun g2 _ => ?_
      refine L_s (pc' := 113) rfl rfl ?_
      refine L_gf (pc' := 116) rfl fr_215_0 rfl ?_
      refine L_bi (pc' := 118) rfl q2_10 rfl ?_
      refine L_bi (pc' := 120) rfl q2_7 rfl ?_
      refine L_s (pc' := 121) rfl rfl ?_
      refine L_s (pc' := 122) rfl rfl ?_
      refine L_e (b := 0) (by decide) ?_
      refine L_s (pc' := 123) rfl rfl ?_
      refine L_e (b := 10) (by decide) ?_
      refine L_ic (pc' := 124) rfl q1_3 rfl ?_
      refine L_s (pc' := 125) rfl rfl ?_
      refine L_e (b := 13) (by decide) ?_
      refine L_s (pc' := 126) rfl rfl ?_
      refine L_rIk (pc' := 127) (j := 13) rfl sh_216 (by decide) (by decide) (by decide) rfl ?_
      refine L_s (pc' := 128) rfl rfl ?_
      refine L_gf (pc' := 131) rfl fr_215_0 rfl ?_
      refine L_s (pc' := 133) rfl rfl ?_
      refine L_rI (pc' := 134) rfl sh_216 (by decide) rfl ?_
      refine L_s (pc' := 135) rfl rfl ?_
      refine L_wIk (pc' := 136) (j := 13) rfl sh_216 (by decide) (by decide) (by decide) rfl ?_
      refine L_let fun g3 _ => ?_
      refine L_s (pc' := 137) rfl rfl ?_
      refine L_gf (pc' := 140) rfl fr_215_0 rfl ?_
      refine L_s (pc' := 142) rfl rfl ?_
      refine L_ic (pc' := 143) rfl q1_0 rfl ?_
      refine L_wI (pc' := 144) rfl sh_216 (by decide) rfl ?_
      refine L_let fun g4 _ => ?_
      refine L_ii (pc' := 147) (L' := [some (.ref 215), some (.int v1), some (.int v2), some (.int 0), some (.int (v4 + 1)), some (.int x1)]) rfl rfl q1_1 rfl rfl rfl ?_
      refine L_s (pc' := 70) rfl rfl ?_
      refine L_wk (L' := [some (.ref 215), some (.int v1), some (.int v2), some (.int 0), some (.int (v4 + 1)), none]) (wk_s (wk_s (wk_s (wk_s (wk_s (wk_n wk_nil)))))) ?_
      exact ih _ _ _ _
theorem p_m_broken_55 {X : Xx} {d : Nat} (hd : 2 ≤ d) (F : Nat) (v1 : Int32) (v2 : Int32) (s0 : Int32) (s1 : Int32) (g : Sg) : Lt X d (some .boolean) k_159 (fun r : Int32 × Sg => ((some (.int r.1), (SHF, r.2)) : Out)) 55 [some (.ref 215), some (.int v1), some (.int v2), none, none, none] [.int s0, .int s1, .ref 216] g (m_broken_55 F v1 v2 s0 s1 g) := by
  unfold m_broken_55
  refine L_wI (pc' := 56) rfl sh_216 (by decide) rfl ?_
  refine L_let fun g1 _ => ?_
  refine L_ic (pc' := 57) rfl q1_0 rfl ?_
  refine L_s (pc' := 58) (L' := [some (.ref 215), some (.int v1), some (.int v2), some (.int 0), none, none]) rfl rfl ?_
  refine L_s (pc' := 59) rfl rfl ?_
  refine L_ic (pc' := 60) rfl q1_2 rfl ?_
  refine L_bf (c := (2 : Int32) ≤ 0) (t := 156) (n := 63) rfl rfl (by decide) ?_
  refine L_s (pc' := 64) rfl rfl ?_
  refine L_br (t := 156) (n := 67) rfl rfl (fun _ => ?_) (fun _ => ?_)
  · refine L_ic (pc' := 157) rfl q1_1 rfl ?_
    exact L_ret rfl (ret_z (by decide)) rfl
  · refine L_ic (pc' := 68) rfl q1_0 rfl ?_
    refine L_s (pc' := 70) (L' := [some (.ref 215), some (.int v1), some (.int v2), some (.int 0), some (.int 0), none]) rfl rfl ?_
    exact p_m_broken_70 hd F F _ _ _ _
theorem p_m_broken_25 {X : Xx} {d : Nat} (hd : 2 ≤ d) (F : Nat) (v1 : Int32) (v2 : Int32) (s0 : Int32) (g : Sg) : Lt X d (some .boolean) k_159 (fun r : Int32 × Sg => ((some (.int r.1), (SHF, r.2)) : Out)) 25 [some (.ref 215), some (.int v1), some (.int v2), none, none, none] [.int s0] g (m_broken_25 F v1 v2 s0 g) := by
  unfold m_broken_25
  refine L_s (pc' := 26) rfl rfl ?_
  refine L_br (t := 31) (n := 29) rfl rfl (fun _ => ?_) (fun _ => ?_)
  · refine L_s (pc' := 32) rfl rfl ?_
    refine L_gf (pc' := 35) rfl fr_215_0 rfl ?_
    refine L_si (pc' := 38) rfl q3_190 rfl ?_
    refine L_bi (pc' := 40) rfl q2_7 rfl ?_
    refine L_s (pc' := 41) rfl rfl ?_
    refine L_s (pc' := 42) rfl rfl ?_
    refine L_s (pc' := 43) rfl rfl ?_
    refine L_bi (pc' := 45) rfl q2_6 rfl ?_
    refine L_s (pc' := 46) rfl rfl ?_
    refine L_s (pc' := 47) rfl rfl ?_
    refine L_br (t := 54) (n := 50) rfl rfl (fun _ => ?_) (fun _ => ?_)
    · refine L_ic (pc' := 55) rfl q1_0 rfl ?_
      exact p_m_broken_55 hd F _ _ _ _ _
    · refine L_ic (pc' := 51) rfl q1_1 rfl ?_
      refine L_s (pc' := 55) rfl rfl ?_
      exact p_m_broken_55 hd F _ _ _ _ _
  · refine L_ic (pc' := 30) rfl q1_0 rfl ?_
    exact L_ret rfl (ret_z (by decide)) rfl
theorem e_m_broken {X : Xx} {d : Nat} (hd : 3 ≤ d) (F : Nat) (v1 : Int32) (v2 : Int32) (g : Sg) : ∀ r, m_broken F v1 v2 g = some r → EvM zft mtl X d 159 [.ref 215, .int v1, .int v2] (SHF, g) ((fun r : Int32 × Sg => ((some (.int r.1), (SHF, r.2)) : Out)) r) := by
  obtain ⟨d, rfl⟩ : ∃ d0, d = d0 + 1 := ⟨d - 1, by omega⟩
  have hd : 2 ≤ d := by omega
  refine E_in (f := (fun r : Int32 × Sg => ((some (.int r.1), (SHF, r.2)) : Out))) rfl (Nat.le_of_ble_eq_true rfl) ?_
  unfold m_broken
  change Lt X d (some .boolean) k_159 _ 0 [some (.ref 215), some (.int v1), some (.int v2), none, none, none] [] g _
  refine L_s (pc' := 1) rfl rfl ?_
  refine L_s (pc' := 2) rfl rfl ?_
  refine L_ic (pc' := 3) rfl q1_1 rfl ?_
  refine L_ci (pc' := 6) (as := [.ref 215, .int v1, .int 1]) (rest := []) rfl rfl (e_m_isOf_k1 (by omega) _ _) rfl fun x1 => ?_
  refine L_br (t := 29) (n := 9) rfl rfl (fun _ => ?_) (fun _ => ?_)
  · refine L_ic (pc' := 30) rfl q1_0 rfl ?_
    exact L_ret rfl (ret_z (by decide)) rfl
  · refine L_s (pc' := 10) rfl rfl ?_
    refine L_s (pc' := 11) rfl rfl ?_
    refine L_bi (pc' := 13) rfl q2_6 rfl ?_
    refine L_ci (pc' := 16) (as := [.ref 215, .int v1, .int 6]) (rest := []) rfl rfl (e_m_channelOf_k6 (by omega) _ _) rfl fun x2 => ?_
    refine L_ic (pc' := 17) rfl q1_1 rfl ?_
    refine L_br (t := 24) (n := 20) rfl rfl (fun _ => ?_) (fun _ => ?_)
    · refine L_ic (pc' := 25) rfl q1_0 rfl ?_
      exact p_m_broken_25 hd F _ _ _ _
    · refine L_ic (pc' := 21) rfl q1_1 rfl ?_
      refine L_s (pc' := 25) rfl rfl ?_
      exact p_m_broken_25 hd F _ _ _ _
def m_channelOf_k0 (v1 : Int32) (g : Sg) : Option (Int32) :=
  (if inb ((190 + (7 * v1)) + 0) 20360 = true then (some (g 216 (Int32.toNatClampNeg ((190 + (7 * v1)) + 0)))) else none)
theorem e_m_channelOf_k0 {X : Xx} {d : Nat} (hd : 1 ≤ d) (v1 : Int32) (g : Sg) : ∀ r, m_channelOf_k0 v1 g = some r → EvM zft mtl X d 153 [.ref 215, .int v1, .int 0] (SHF, g) ((fun r : Int32 => ((some (.int r), (SHF, g)) : Out)) r) := by
  obtain ⟨d, rfl⟩ : ∃ d0, d = d0 + 1 := ⟨d - 1, by omega⟩
  have hd : 0 ≤ d := by omega
  refine E_in (f := (fun r : Int32 => ((some (.int r), (SHF, g)) : Out))) rfl (Nat.le_of_ble_eq_true rfl) ?_
  unfold m_channelOf_k0
  change Lt X d (some .int) k_153 _ 0 [some (.ref 215), some (.int v1), some (.int 0)] [] g _
  refine L_s (pc' := 1) rfl rfl ?_
  refine L_gf (pc' := 4) rfl fr_215_0 rfl ?_
  refine L_si (pc' := 7) rfl q3_190 rfl ?_
  refine L_bi (pc' := 9) rfl q2_7 rfl ?_
  refine L_s (pc' := 10) rfl rfl ?_
  refine L_s (pc' := 11) rfl rfl ?_
  refine L_s (pc' := 12) rfl rfl ?_
  refine L_s (pc' := 13) rfl rfl ?_
  refine L_s (pc' := 14) rfl rfl ?_
  refine L_rI (pc' := 15) rfl sh_216 (by decide) rfl ?_
  exact L_ret rfl ret_i rfl
def m_open_35 (v1 : Int32) (v2 : Int32) (g : Sg) : Option (Int32 × Sg) :=
  (if inb ((140 + (5 * v1)) + 2) 20360 = true then lt1 (up2 g 216 (Int32.toNatClampNeg ((140 + (5 * v1)) + 2)) v2) (fun g1 => (some (1, g1))) else none)
def m_open (v1 : Int32) (v2 : Int32) (g : Sg) : Option (Int32 × Sg) :=
  Option.bind (m_isOf_k0 v1 g) (fun x1 => (if x1 = 0 then
    (some (0, g))
  else
    (if v2 = (-1) then
      (m_open_35 v1 v2 g)
    else
      Option.bind (m_isOf_k1 v2 g) (fun x2 => (if x2 = 0 then
        (some (0, g))
      else
        Option.bind (m_channelOf_k0 v2 g) (fun x3 => (if x3 = v1 then
          (m_open_35 v1 v2 g)
        else
          (some (0, g)))))))))
theorem p_m_open_35 {X : Xx} {d : Nat} (hd : 2 ≤ d) (v1 : Int32) (v2 : Int32) (g : Sg) : Lt X d (some .boolean) k_160 (fun r : Int32 × Sg => ((some (.int r.1), (SHF, r.2)) : Out)) 35 [some (.ref 215), some (.int v1), some (.int v2)] [] g (m_open_35 v1 v2 g) := by
  unfold m_open_35
  refine L_s (pc' := 36) rfl rfl ?_
  refine L_gf (pc' := 39) rfl fr_215_0 rfl ?_
  refine L_si (pc' := 42) rfl q3_140 rfl ?_
  refine L_ic (pc' := 43) rfl q1_5 rfl ?_
  refine L_s (pc' := 44) rfl rfl ?_
  refine L_s (pc' := 45) rfl rfl ?_
  refine L_s (pc' := 46) rfl rfl ?_
  refine L_ic (pc' := 47) rfl q1_2 rfl ?_
  refine L_s (pc' := 48) rfl rfl ?_
  refine L_s (pc' := 49) rfl rfl ?_
  refine L_wI (pc' := 50) rfl sh_216 (by decide) rfl ?_
  refine L_let fun g1 _ => ?_
  refine L_ic (pc' := 51) rfl q1_1 rfl ?_
  exact L_ret rfl (ret_z (by decide)) rfl
theorem e_m_open {X : Xx} {d : Nat} (hd : 3 ≤ d) (v1 : Int32) (v2 : Int32) (g : Sg) : ∀ r, m_open v1 v2 g = some r → EvM zft mtl X d 160 [.ref 215, .int v1, .int v2] (SHF, g) ((fun r : Int32 × Sg => ((some (.int r.1), (SHF, r.2)) : Out)) r) := by
  obtain ⟨d, rfl⟩ : ∃ d0, d = d0 + 1 := ⟨d - 1, by omega⟩
  have hd : 2 ≤ d := by omega
  refine E_in (f := (fun r : Int32 × Sg => ((some (.int r.1), (SHF, r.2)) : Out))) rfl (Nat.le_of_ble_eq_true rfl) ?_
  unfold m_open
  change Lt X d (some .boolean) k_160 _ 0 [some (.ref 215), some (.int v1), some (.int v2)] [] g _
  refine L_s (pc' := 1) rfl rfl ?_
  refine L_s (pc' := 2) rfl rfl ?_
  refine L_ic (pc' := 3) rfl q1_0 rfl ?_
  refine L_ci (pc' := 6) (as := [.ref 215, .int v1, .int 0]) (rest := []) rfl rfl (e_m_isOf_k0 (by omega) _ _) rfl fun x1 => ?_
  refine L_br (t := 33) (n := 9) rfl rfl (fun _ => ?_) (fun _ => ?_)
  · refine L_ic (pc' := 34) rfl q1_0 rfl ?_
    exact L_ret rfl (ret_z (by decide)) rfl
  · refine L_s (pc' := 10) rfl rfl ?_
    refine L_ic (pc' := 11) rfl q1_m1 rfl ?_
    refine L_br (t := 35) (n := 14) rfl rfl (fun _ => ?_) (fun _ => ?_)
    · exact p_m_open_35 hd _ _ _
    · refine L_s (pc' := 15) rfl rfl ?_
      refine L_s (pc' := 16) rfl rfl ?_
      refine L_ic (pc' := 17) rfl q1_1 rfl ?_
      refine L_ci (pc' := 20) (as := [.ref 215, .int v2, .int 1]) (rest := []) rfl rfl (e_m_isOf_k1 (by omega) _ _) rfl fun x2 => ?_
      refine L_br (t := 33) (n := 23) rfl rfl (fun _ => ?_) (fun _ => ?_)
      · refine L_ic (pc' := 34) rfl q1_0 rfl ?_
        exact L_ret rfl (ret_z (by decide)) rfl
      · refine L_s (pc' := 24) rfl rfl ?_
        refine L_s (pc' := 25) rfl rfl ?_
        refine L_ic (pc' := 26) rfl q1_0 rfl ?_
        refine L_ci (pc' := 29) (as := [.ref 215, .int v2, .int 0]) (rest := []) rfl rfl (e_m_channelOf_k0 (by omega) _ _) rfl fun x3 => ?_
        refine L_s (pc' := 30) rfl rfl ?_
        refine L_br (t := 35) (n := 33) rfl rfl (fun _ => ?_) (fun _ => ?_)
        · exact p_m_open_35 hd _ _ _
        · refine L_ic (pc' := 34) rfl q1_0 rfl ?_
          exact L_ret rfl (ret_z (by decide)) rfl
def m_channelOf_k1 (v1 : Int32) (g : Sg) : Option (Int32) :=
  (if inb ((190 + (7 * v1)) + 1) 20360 = true then (some (g 216 (Int32.toNatClampNeg ((190 + (7 * v1)) + 1)))) else none)
theorem e_m_channelOf_k1 {X : Xx} {d : Nat} (hd : 1 ≤ d) (v1 : Int32) (g : Sg) : ∀ r, m_channelOf_k1 v1 g = some r → EvM zft mtl X d 153 [.ref 215, .int v1, .int 1] (SHF, g) ((fun r : Int32 => ((some (.int r), (SHF, g)) : Out)) r) := by
  obtain ⟨d, rfl⟩ : ∃ d0, d = d0 + 1 := ⟨d - 1, by omega⟩
  have hd : 0 ≤ d := by omega
  refine E_in (f := (fun r : Int32 => ((some (.int r), (SHF, g)) : Out))) rfl (Nat.le_of_ble_eq_true rfl) ?_
  unfold m_channelOf_k1
  change Lt X d (some .int) k_153 _ 0 [some (.ref 215), some (.int v1), some (.int 1)] [] g _
  refine L_s (pc' := 1) rfl rfl ?_
  refine L_gf (pc' := 4) rfl fr_215_0 rfl ?_
  refine L_si (pc' := 7) rfl q3_190 rfl ?_
  refine L_bi (pc' := 9) rfl q2_7 rfl ?_
  refine L_s (pc' := 10) rfl rfl ?_
  refine L_s (pc' := 11) rfl rfl ?_
  refine L_s (pc' := 12) rfl rfl ?_
  refine L_s (pc' := 13) rfl rfl ?_
  refine L_s (pc' := 14) rfl rfl ?_
  refine L_rI (pc' := 15) rfl sh_216 (by decide) rfl ?_
  exact L_ret rfl ret_i rfl
def m_channelOf_k4 (v1 : Int32) (g : Sg) : Option (Int32) :=
  (if inb ((190 + (7 * v1)) + 4) 20360 = true then (some (g 216 (Int32.toNatClampNeg ((190 + (7 * v1)) + 4)))) else none)
theorem e_m_channelOf_k4 {X : Xx} {d : Nat} (hd : 1 ≤ d) (v1 : Int32) (g : Sg) : ∀ r, m_channelOf_k4 v1 g = some r → EvM zft mtl X d 153 [.ref 215, .int v1, .int 4] (SHF, g) ((fun r : Int32 => ((some (.int r), (SHF, g)) : Out)) r) := by
  obtain ⟨d, rfl⟩ : ∃ d0, d = d0 + 1 := ⟨d - 1, by omega⟩
  have hd : 0 ≤ d := by omega
  refine E_in (f := (fun r : Int32 => ((some (.int r), (SHF, g)) : Out))) rfl (Nat.le_of_ble_eq_true rfl) ?_
  unfold m_channelOf_k4
  change Lt X d (some .int) k_153 _ 0 [some (.ref 215), some (.int v1), some (.int 4)] [] g _
  refine L_s (pc' := 1) rfl rfl ?_
  refine L_gf (pc' := 4) rfl fr_215_0 rfl ?_
  refine L_si (pc' := 7) rfl q3_190 rfl ?_
  refine L_bi (pc' := 9) rfl q2_7 rfl ?_
  refine L_s (pc' := 10) rfl rfl ?_
  refine L_s (pc' := 11) rfl rfl ?_
  refine L_s (pc' := 12) rfl rfl ?_
  refine L_s (pc' := 13) rfl rfl ?_
  refine L_s (pc' := 14) rfl rfl ?_
  refine L_rI (pc' := 15) rfl sh_216 (by decide) rfl ?_
  exact L_ret rfl ret_i rfl
def m_seeks_26 (k_3 : Int32 → Int32 → Sg → Option (Sg)) : Nat → Int32 → Int32 → Int32 → Sg → Option (Sg)
  | 0, _, _, _, _ => none
  | n + 1, v1, v2, v3, g =>
    (if (g 216 1) ≤ v3 then
      (k_3 v1 (v2 + (-1)) g)
    else
      (if v1 ≤ v2 then
        (k_3 v1 (v2 + (-1)) g)
      else
        Option.bind (m_channelOf_k0 v3 g) (fun x1 => (if ¬ x1 = v2 then
          (m_seeks_26 k_3 n v1 v2 (v3 + 1) g)
        else
          Option.bind (m_channelOf_k6 v3 g) (fun x2 => (if x2 = 1 then
            (m_seeks_26 k_3 n v1 v2 (v3 + 1) g)
          else
            Option.bind (m_channelOf_k1 v3 g) (fun x3 => (if x3 ≤ v1 then
              Option.bind (m_channelOf_k4 v3 g) (fun x4 => Option.bind (m_channelOf_k1 v3 g) (fun x5 => (if inb x5 10 = true then lt1 ((((100 * x4) + 1) + (g 218 (Int32.toNatClampNeg x5))) : Int32) (fun x6 => (if inb v2 10 = true then (if (g 218 (Int32.toNatClampNeg v2)) ≤ x6 then
                (m_seeks_26 k_3 n v1 v2 (v3 + 1) g)
              else
                (if inb v2 10 = true then lt1 (up2 g 218 (Int32.toNatClampNeg v2) x6) (fun g7 => (m_seeks_26 k_3 n v1 v2 (v3 + 1) g7)) else none)) else none)) else none)))
            else
              (m_seeks_26 k_3 n v1 v2 (v3 + 1) g)))))))))
def m_seeks_3 (F : Nat) : Nat → Int32 → Int32 → Sg → Option (Sg)
  | 0, _, _, _ => none
  | n + 1, v1, v2, g =>
    (if v2 < 0 then
      (some g)
    else
      (if ¬ v2 = v1 then
        (if inb v2 10 = true then lt1 (up2 g 218 (Int32.toNatClampNeg v2) 1000000) (fun g1 => (m_seeks_26 (fun v1 v2 g0 => m_seeks_3 F n v1 v2 g0) F v1 v2 0 g1)) else none)
      else
        (if inb v2 10 = true then lt1 (up2 g 218 (Int32.toNatClampNeg v2) 0) (fun g2 => (m_seeks_26 (fun v1 v2 g0 => m_seeks_3 F n v1 v2 g0) F v1 v2 0 g2)) else none)))
def m_seeks (F : Nat) (v1 : Int32) (g : Sg) : Option (Sg) :=
  (m_seeks_3 F F v1 9 g)
theorem p_m_seeks_26 {X : Xx} {d : Nat} {k_3 : Int32 → Int32 → Sg → Option (Sg)} (hd : 1 ≤ d) (hk_3 : ∀ (v1 : Int32) (v2 : Int32) (g : Sg), Lt X d none k_161 (fun r : Sg => ((none, (SHF, r)) : Out)) 3 [some (.ref 215), some (.int v1), some (.int v2), none, none] [] g (k_3 v1 v2 g)) : ∀ (n : Nat) (v1 : Int32) (v2 : Int32) (v3 : Int32) (g : Sg), Lt X d none k_161 (fun r : Sg => ((none, (SHF, r)) : Out)) 26 [some (.ref 215), some (.int v1), some (.int v2), some (.int v3), none] [] g (m_seeks_26 k_3 n v1 v2 v3 g) := by
  intro n
  induction n with
  | zero => intros; exact L_none
  | succ n ih =>
    intro v1 v2 v3 g
    show Lt X d none k_161 (fun r : Sg => ((none, (SHF, r)) : Out)) 26 [some (.ref 215), some (.int v1), some (.int v2), some (.int v3), none] [] g (
      (if (g 216 1) ≤ v3 then
        (k_3 v1 (v2 + (-1)) g)
      else
        (if v1 ≤ v2 then
          (k_3 v1 (v2 + (-1)) g)
        else
          Option.bind (m_channelOf_k0 v3 g) (fun x1 => (if ¬ x1 = v2 then
            (m_seeks_26 k_3 n v1 v2 (v3 + 1) g)
          else
            Option.bind (m_channelOf_k6 v3 g) (fun x2 => (if x2 = 1 then
              (m_seeks_26 k_3 n v1 v2 (v3 + 1) g)
            else
              Option.bind (m_channelOf_k1 v3 g) (fun x3 => (if x3 ≤ v1 then
                Option.bind (m_channelOf_k4 v3 g) (fun x4 => Option.bind (m_channelOf_k1 v3 g) (fun x5 => (if inb x5 10 = true then lt1 ((((100 * x4) + 1) + (g 218 (Int32.toNatClampNeg x5))) : Int32) (fun x6 => (if inb v2 10 = true then (if (g 218 (Int32.toNatClampNeg v2)) ≤ x6 then
                  (m_seeks_26 k_3 n v1 v2 (v3 + 1) g)
                else
                  (if inb v2 10 = true then lt1 (up2 g 218 (Int32.toNatClampNeg v2) x6) (fun g7 => (m_seeks_26 k_3 n v1 v2 (v3 + 1) g7)) else none)) else none)) else none)))
              else
                (m_seeks_26 k_3 n v1 v2 (v3 + 1) g))))))))))
    refine L_s (pc' := 27) rfl rfl ?_
    refine L_s (pc' := 28) rfl rfl ?_
    refine L_gf (pc' := 31) rfl fr_215_0 rfl ?_
    refine L_ic (pc' := 32) rfl q1_1 rfl ?_
    refine L_rIk (pc' := 33) (j := 1) rfl sh_216 (by decide) (by decide) (by decide) rfl ?_
    refine L_br (t := 125) (n := 36) rfl rfl (fun _ => ?_) (fun _ => ?_)
    · refine L_ii (pc' := 128) (L' := [some (.ref 215), some (.int v1), some (.int (v2 + (-1))), some (.int v3), none]) rfl rfl q1_m1 rfl rfl rfl ?_
      refine L_s (pc' := 3) rfl rfl ?_
      refine L_wk (L' := [some (.ref 215), some (.int v1), some (.int (v2 + (-1))), none, none]) (wk_s (wk_s (wk_s (wk_n (wk_s wk_nil))))) ?_
      exact hk_3 _ _ _
    · refine L_s (pc' := 37) rfl rfl ?_
      refine L_s (pc' := 38) rfl rfl ?_
      refine L_br (t := 125) (n := 41) rfl rfl (fun _ => ?_) (fun _ => ?_)
      · refine L_ii (pc' := 128) (L' := [some (.ref 215), some (.int v1), some (.int (v2 + (-1))), some (.int v3), none]) rfl rfl q1_m1 rfl rfl rfl ?_
        refine L_s (pc' := 3) rfl rfl ?_
        refine L_wk (L' := [some (.ref 215), some (.int v1), some (.int (v2 + (-1))), none, none]) (wk_s (wk_s (wk_s (wk_n (wk_s wk_nil))))) ?_
        exact hk_3 _ _ _
      · refine L_s (pc' := 42) rfl rfl ?_
        refine L_s (pc' := 43) rfl rfl ?_
        refine L_ic (pc' := 44) rfl q1_0 rfl ?_
        refine L_ci (pc' := 47) (as := [.ref 215, .int v3, .int 0]) (rest := []) rfl rfl (e_m_channelOf_k0 (by omega) _ _) rfl fun x1 => ?_
        refine L_s (pc' := 48) rfl rfl ?_
        refine L_br (t := 119) (n := 51) rfl rfl (fun _ => ?_) (fun _ => ?_)
        · refine L_ii (pc' := 122) (L' := [some (.ref 215), some (.int v1), some (.int v2), some (.int (v3 + 1)), none]) rfl rfl q1_1 rfl rfl rfl ?_
          refine L_s (pc' := 26) rfl rfl ?_
          exact ih _ _ _ _
        · refine L_s (pc' := 52) rfl rfl ?_
          refine L_s (pc' := 53) rfl rfl ?_
          refine L_bi (pc' := 55) rfl q2_6 rfl ?_
          refine L_ci (pc' := 58) (as := [.ref 215, .int v3, .int 6]) (rest := []) rfl rfl (e_m_channelOf_k6 (by omega) _ _) rfl fun x2 => ?_
          refine L_ic (pc' := 59) rfl q1_1 rfl ?_
          refine L_br (t := 119) (n := 62) rfl rfl (fun _ => ?_) (fun _ => ?_)
          · refine L_ii (pc' := 122) (L' := [some (.ref 215), some (.int v1), some (.int v2), some (.int (v3 + 1)), none]) rfl rfl q1_1 rfl rfl rfl ?_
            refine L_s (pc' := 26) rfl rfl ?_
            exact ih _ _ _ _
          · refine L_s (pc' := 63) rfl rfl ?_
            refine L_s (pc' := 64) rfl rfl ?_
            refine L_ic (pc' := 65) rfl q1_1 rfl ?_
            refine L_ci (pc' := 68) (as := [.ref 215, .int v3, .int 1]) (rest := []) rfl rfl (e_m_channelOf_k1 (by omega) _ _) rfl fun x3 => ?_
            refine L_s (pc' := 69) rfl rfl ?_
            refine L_br (t := 75) (n := 72) rfl rfl (fun _ => ?_) (fun _ => ?_)
            · refine L_bi (pc' := 77) rfl q2_100 rfl ?_
              refine L_s (pc' := 78) rfl rfl ?_
              refine L_s (pc' := 79) rfl rfl ?_
              refine L_ic (pc' := 80) rfl q1_4 rfl ?_
              refine L_ci (pc' := 83) (as := [.ref 215, .int v3, .int 4]) (rest := [.int 100]) rfl rfl (e_m_channelOf_k4 (by omega) _ _) rfl fun x4 => ?_
              refine L_s (pc' := 84) rfl rfl ?_
              refine L_ic (pc' := 85) rfl q1_1 rfl ?_
              refine L_s (pc' := 86) rfl rfl ?_
              refine L_s (pc' := 87) rfl rfl ?_
              refine L_gf (pc' := 90) rfl fr_215_2 rfl ?_
              refine L_s (pc' := 91) rfl rfl ?_
              refine L_s (pc' := 92) rfl rfl ?_
              refine L_ic (pc' := 93) rfl q1_1 rfl ?_
              refine L_ci (pc' := 96) (as := [.ref 215, .int v3, .int 1]) (rest := [.ref 218, .int ((100 * x4) + 1)]) rfl rfl (e_m_channelOf_k1 (by omega) _ _) rfl fun x5 => ?_
              refine L_rI (pc' := 97) rfl sh_218 (by decide) rfl ?_
              refine L_s (pc' := 98) rfl rfl ?_
              refine L_li fun x6 _ => ?_
              refine L_s (pc' := 100) (L' := [some (.ref 215), some (.int v1), some (.int v2), some (.int v3), some (.int x6)]) rfl rfl ?_
              refine L_s (pc' := 102) rfl rfl ?_
              refine L_s (pc' := 103) rfl rfl ?_
              refine L_gf (pc' := 106) rfl fr_215_2 rfl ?_
              refine L_s (pc' := 107) rfl rfl ?_
              refine L_rI (pc' := 108) rfl sh_218 (by decide) rfl ?_
              refine L_br (t := 119) (n := 111) rfl rfl (fun _ => ?_) (fun _ => ?_)
              · refine L_ii (pc' := 122) (L' := [some (.ref 215), some (.int v1), some (.int v2), some (.int (v3 + 1)), some (.int x6)]) rfl rfl q1_1 rfl rfl rfl ?_
                refine L_s (pc' := 26) rfl rfl ?_
                refine L_wk (L' := [some (.ref 215), some (.int v1), some (.int v2), some (.int (v3 + 1)), none]) (wk_s (wk_s (wk_s (wk_s (wk_n wk_nil))))) ?_
                exact ih _ _ _ _
              · refine L_s (pc' := 112) rfl rfl ?_
                refine L_gf (pc' := 115) rfl fr_215_2 rfl ?_
                refine L_s (pc' := 116) rfl rfl ?_
                refine L_s (pc' := 118) rfl rfl ?_
                refine L_wI (pc' := 119) rfl sh_218 (by decide) rfl ?_
                refine L_let fun g7 _ => ?_
                refine L_ii (pc' := 122) (L' := [some (.ref 215), some (.int v1), some (.int v2), some (.int (v3 + 1)), some (.int x6)]) rfl rfl q1_1 rfl rfl rfl ?_
                refine L_s (pc' := 26) rfl rfl ?_
                refine L_wk (L' := [some (.ref 215), some (.int v1), some (.int v2), some (.int (v3 + 1)), none]) (wk_s (wk_s (wk_s (wk_s (wk_n wk_nil))))) ?_
                exact ih _ _ _ _
            · refine L_s (pc' := 119) rfl rfl ?_
              refine L_ii (pc' := 122) (L' := [some (.ref 215), some (.int v1), some (.int v2), some (.int (v3 + 1)), none]) rfl rfl q1_1 rfl rfl rfl ?_
              refine L_s (pc' := 26) rfl rfl ?_
              exact ih _ _ _ _
theorem p_m_seeks_3 {X : Xx} {d : Nat} (hd : 1 ≤ d) (F : Nat) : ∀ (n : Nat) (v1 : Int32) (v2 : Int32) (g : Sg), Lt X d none k_161 (fun r : Sg => ((none, (SHF, r)) : Out)) 3 [some (.ref 215), some (.int v1), some (.int v2), none, none] [] g (m_seeks_3 F n v1 v2 g) := by
  intro n
  induction n with
  | zero => intros; exact L_none
  | succ n ih =>
    intro v1 v2 g
    show Lt X d none k_161 (fun r : Sg => ((none, (SHF, r)) : Out)) 3 [some (.ref 215), some (.int v1), some (.int v2), none, none] [] g (
      (if v2 < 0 then
        (some g)
      else
        (if ¬ v2 = v1 then
          (if inb v2 10 = true then lt1 (up2 g 218 (Int32.toNatClampNeg v2) 1000000) (fun g1 => (m_seeks_26 (fun v1 v2 g0 => m_seeks_3 F n v1 v2 g0) F v1 v2 0 g1)) else none)
        else
          (if inb v2 10 = true then lt1 (up2 g 218 (Int32.toNatClampNeg v2) 0) (fun g2 => (m_seeks_26 (fun v1 v2 g0 => m_seeks_3 F n v1 v2 g0) F v1 v2 0 g2)) else none))))
    refine L_s (pc' := 4) rfl rfl ?_
    refine L_br (t := 131) (n := 7) rfl rfl (fun _ => ?_) (fun _ => ?_)
    · exact L_ret rfl rfl rfl
    · refine L_s (pc' := 8) rfl rfl ?_
      refine L_gf (pc' := 11) rfl fr_215_2 rfl ?_
      refine L_s (pc' := 12) rfl rfl ?_
      refine L_s (pc' := 13) rfl rfl ?_
      refine L_s (pc' := 14) rfl rfl ?_
      refine L_br (t := 21) (n := 17) rfl rfl (fun _ => ?_) (fun _ => ?_)
      · refine L_ldc (pc' := 23) rfl q1_1000000 rfl ?_
        refine L_wI (pc' := 24) rfl sh_218 (by decide) rfl ?_
        refine L_let fun g1 _ => ?_
        refine L_ic (pc' := 25) rfl q1_0 rfl ?_
        refine L_s (pc' := 26) (L' := [some (.ref 215), some (.int v1), some (.int v2), some (.int 0), none]) rfl rfl ?_
        exact p_m_seeks_26 hd (fun _ _ _ => ih _ _ _) F _ _ _ _
      · refine L_ic (pc' := 18) rfl q1_0 rfl ?_
        refine L_s (pc' := 23) rfl rfl ?_
        refine L_wI (pc' := 24) rfl sh_218 (by decide) rfl ?_
        refine L_let fun g2 _ => ?_
        refine L_ic (pc' := 25) rfl q1_0 rfl ?_
        refine L_s (pc' := 26) (L' := [some (.ref 215), some (.int v1), some (.int v2), some (.int 0), none]) rfl rfl ?_
        exact p_m_seeks_26 hd (fun _ _ _ => ih _ _ _) F _ _ _ _
theorem e_m_seeks {X : Xx} {d : Nat} (hd : 2 ≤ d) (F : Nat) (v1 : Int32) (g : Sg) : ∀ r, m_seeks F v1 g = some r → EvM zft mtl X d 161 [.ref 215, .int v1] (SHF, g) ((fun r : Sg => ((none, (SHF, r)) : Out)) r) := by
  obtain ⟨d, rfl⟩ : ∃ d0, d = d0 + 1 := ⟨d - 1, by omega⟩
  have hd : 1 ≤ d := by omega
  refine E_in (f := (fun r : Sg => ((none, (SHF, r)) : Out))) rfl (Nat.le_of_ble_eq_true rfl) ?_
  unfold m_seeks
  change Lt X d none k_161 _ 0 [some (.ref 215), some (.int v1), none, none, none] [] g _
  refine L_bi (pc' := 2) rfl q2_9 rfl ?_
  refine L_s (pc' := 3) (L' := [some (.ref 215), some (.int v1), some (.int 9), none, none]) rfl rfl ?_
  exact p_m_seeks_3 hd F F _ _ _
def m_leads (F : Nat) (v1 : Int32) (v2 : Int32) (g : Sg) : Option (Int32 × Sg) :=
  Option.bind (m_isOf_k0 v1 g) (fun x1 => (if x1 = 0 then
    (some (0, g))
  else
    Option.bind (m_isOf_k0 v2 g) (fun x2 => (if x2 = 0 then
      (some (0, g))
    else
      (if v1 < v2 then
        Option.bind (m_seeks F v2 g) (fun g3 => (if inb v1 10 = true then (if 1000000 ≤ (g3 218 (Int32.toNatClampNeg v1)) then
          (some (0, g3))
        else
          (some (1, g3))) else none))
      else
        (some (0, g)))))))
theorem e_m_leads {X : Xx} {d : Nat} (hd : 3 ≤ d) (F : Nat) (v1 : Int32) (v2 : Int32) (g : Sg) : ∀ r, m_leads F v1 v2 g = some r → EvM zft mtl X d 163 [.ref 215, .int v1, .int v2] (SHF, g) ((fun r : Int32 × Sg => ((some (.int r.1), (SHF, r.2)) : Out)) r) := by
  obtain ⟨d, rfl⟩ : ∃ d0, d = d0 + 1 := ⟨d - 1, by omega⟩
  have hd : 2 ≤ d := by omega
  refine E_in (f := (fun r : Int32 × Sg => ((some (.int r.1), (SHF, r.2)) : Out))) rfl (Nat.le_of_ble_eq_true rfl) ?_
  unfold m_leads
  change Lt X d (some .boolean) k_163 _ 0 [some (.ref 215), some (.int v1), some (.int v2)] [] g _
  refine L_s (pc' := 1) rfl rfl ?_
  refine L_s (pc' := 2) rfl rfl ?_
  refine L_ic (pc' := 3) rfl q1_0 rfl ?_
  refine L_ci (pc' := 6) (as := [.ref 215, .int v1, .int 0]) (rest := []) rfl rfl (e_m_isOf_k0 (by omega) _ _) rfl fun x1 => ?_
  refine L_br (t := 23) (n := 9) rfl rfl (fun _ => ?_) (fun _ => ?_)
  · refine L_ic (pc' := 24) rfl q1_0 rfl ?_
    exact L_ret rfl (ret_z (by decide)) rfl
  · refine L_s (pc' := 10) rfl rfl ?_
    refine L_s (pc' := 11) rfl rfl ?_
    refine L_ic (pc' := 12) rfl q1_0 rfl ?_
    refine L_ci (pc' := 15) (as := [.ref 215, .int v2, .int 0]) (rest := []) rfl rfl (e_m_isOf_k0 (by omega) _ _) rfl fun x2 => ?_
    refine L_br (t := 23) (n := 18) rfl rfl (fun _ => ?_) (fun _ => ?_)
    · refine L_ic (pc' := 24) rfl q1_0 rfl ?_
      exact L_ret rfl (ret_z (by decide)) rfl
    · refine L_s (pc' := 19) rfl rfl ?_
      refine L_s (pc' := 20) rfl rfl ?_
      refine L_br (t := 25) (n := 23) rfl rfl (fun _ => ?_) (fun _ => ?_)
      · refine L_s (pc' := 26) rfl rfl ?_
        refine L_s (pc' := 27) rfl rfl ?_
        refine L_cv (pc' := 30) (as := [.ref 215, .int v2]) (rest := []) rfl rfl (e_m_seeks (by omega) F _ _) rfl fun g3 => ?_
        refine L_s (pc' := 31) rfl rfl ?_
        refine L_gf (pc' := 34) rfl fr_215_2 rfl ?_
        refine L_s (pc' := 35) rfl rfl ?_
        refine L_rI (pc' := 36) rfl sh_218 (by decide) rfl ?_
        refine L_ldc (pc' := 38) rfl q1_1000000 rfl ?_
        refine L_br (t := 45) (n := 41) rfl rfl (fun _ => ?_) (fun _ => ?_)
        · refine L_ic (pc' := 46) rfl q1_0 rfl ?_
          exact L_ret rfl (ret_z (by decide)) rfl
        · refine L_ic (pc' := 42) rfl q1_1 rfl ?_
          refine L_s (pc' := 46) rfl rfl ?_
          exact L_ret rfl (ret_z (by decide)) rfl
      · refine L_ic (pc' := 24) rfl q1_0 rfl ?_
        exact L_ret rfl (ret_z (by decide)) rfl
def m_path (F : Nat) (v1 : Int32) (v2 : Int32) (g : Sg) : Option (Int32 × Sg) :=
  Option.bind (m_leads F v1 v2 g) (fun (x1, g2) => (if x1 = 0 then
    (some ((-1), g2))
  else
    (if inb v1 10 = true then (some (((g2 218 (Int32.toNatClampNeg v1)) / 100), g2)) else none)))
theorem e_m_path {X : Xx} {d : Nat} (hd : 4 ≤ d) (F : Nat) (v1 : Int32) (v2 : Int32) (g : Sg) : ∀ r, m_path F v1 v2 g = some r → EvM zft mtl X d 164 [.ref 215, .int v1, .int v2] (SHF, g) ((fun r : Int32 × Sg => ((some (.int r.1), (SHF, r.2)) : Out)) r) := by
  obtain ⟨d, rfl⟩ : ∃ d0, d = d0 + 1 := ⟨d - 1, by omega⟩
  have hd : 3 ≤ d := by omega
  refine E_in (f := (fun r : Int32 × Sg => ((some (.int r.1), (SHF, r.2)) : Out))) rfl (Nat.le_of_ble_eq_true rfl) ?_
  unfold m_path
  change Lt X d (some .int) k_164 _ 0 [some (.ref 215), some (.int v1), some (.int v2)] [] g _
  refine L_s (pc' := 1) rfl rfl ?_
  refine L_s (pc' := 2) rfl rfl ?_
  refine L_s (pc' := 3) rfl rfl ?_
  refine L_cig (pc' := 6) (as := [.ref 215, .int v1, .int v2]) (rest := []) rfl rfl (e_m_leads (by omega) F _ _ _) rfl fun x1 g2 => ?_
  refine L_br (t := 21) (n := 9) rfl rfl (fun _ => ?_) (fun _ => ?_)
  · refine L_ic (pc' := 22) rfl q1_m1 rfl ?_
    exact L_ret rfl ret_i rfl
  · refine L_s (pc' := 10) rfl rfl ?_
    refine L_gf (pc' := 13) rfl fr_215_2 rfl ?_
    refine L_s (pc' := 14) rfl rfl ?_
    refine L_rI (pc' := 15) rfl sh_218 (by decide) rfl ?_
    refine L_bi (pc' := 17) rfl q2_100 rfl ?_
    refine L_dvk (pc' := 18) rfl (by decide) rfl ?_
    refine L_s (pc' := 22) rfl rfl ?_
    exact L_ret rfl ret_i rfl
def m_onward_2 : Nat → Int32 → Int32 → Sg → Option (Int32)
  | 0, _, _, _ => none
  | n + 1, v1, v2, g =>
    (if (g 216 1) ≤ v2 then
      (some (-1))
    else
      Option.bind (m_channelOf_k0 v2 g) (fun x1 => (if ¬ x1 = v1 then
        (m_onward_2 n v1 (v2 + 1) g)
      else
        Option.bind (m_channelOf_k6 v2 g) (fun x2 => (if ¬ x2 = 0 then
          (m_onward_2 n v1 (v2 + 1) g)
        else
          Option.bind (m_channelOf_k4 v2 g) (fun x3 => Option.bind (m_channelOf_k1 v2 g) (fun x4 => (if inb x4 10 = true then (if inb v1 10 = true then (if ¬ (((100 * x3) + 1) + (g 218 (Int32.toNatClampNeg x4))) = (g 218 (Int32.toNatClampNeg v1)) then
            (m_onward_2 n v1 (v2 + 1) g)
          else
            (some v2)) else none) else none))))))))
def m_onward (F : Nat) (v1 : Int32) (g : Sg) : Option (Int32) :=
  (m_onward_2 F v1 0 g)
theorem p_m_onward_2 {X : Xx} {d : Nat} {g : Sg} (hd : 1 ≤ d) : ∀ (n : Nat) (v1 : Int32) (v2 : Int32), Lt X d (some .int) k_162 (fun r : Int32 => ((some (.int r), (SHF, g)) : Out)) 2 [some (.ref 215), some (.int v1), some (.int v2)] [] g (m_onward_2 n v1 v2 g) := by
  intro n
  induction n with
  | zero => intros; exact L_none
  | succ n ih =>
    intro v1 v2
    show Lt X d (some .int) k_162 (fun r : Int32 => ((some (.int r), (SHF, g)) : Out)) 2 [some (.ref 215), some (.int v1), some (.int v2)] [] g (
      (if (g 216 1) ≤ v2 then
        (some (-1))
      else
        Option.bind (m_channelOf_k0 v2 g) (fun x1 => (if ¬ x1 = v1 then
          (m_onward_2 n v1 (v2 + 1) g)
        else
          Option.bind (m_channelOf_k6 v2 g) (fun x2 => (if ¬ x2 = 0 then
            (m_onward_2 n v1 (v2 + 1) g)
          else
            Option.bind (m_channelOf_k4 v2 g) (fun x3 => Option.bind (m_channelOf_k1 v2 g) (fun x4 => (if inb x4 10 = true then (if inb v1 10 = true then (if ¬ (((100 * x3) + 1) + (g 218 (Int32.toNatClampNeg x4))) = (g 218 (Int32.toNatClampNeg v1)) then
              (m_onward_2 n v1 (v2 + 1) g)
            else
              (some v2)) else none) else none)))))))))
    refine L_s (pc' := 3) rfl rfl ?_
    refine L_s (pc' := 4) rfl rfl ?_
    refine L_gf (pc' := 7) rfl fr_215_0 rfl ?_
    refine L_ic (pc' := 8) rfl q1_1 rfl ?_
    refine L_rIk (pc' := 9) (j := 1) rfl sh_216 (by decide) (by decide) (by decide) rfl ?_
    refine L_br (t := 72) (n := 12) rfl rfl (fun _ => ?_) (fun _ => ?_)
    · refine L_ic (pc' := 73) rfl q1_m1 rfl ?_
      exact L_ret rfl ret_i rfl
    · refine L_s (pc' := 13) rfl rfl ?_
      refine L_s (pc' := 14) rfl rfl ?_
      refine L_ic (pc' := 15) rfl q1_0 rfl ?_
      refine L_ci (pc' := 18) (as := [.ref 215, .int v2, .int 0]) (rest := []) rfl rfl (e_m_channelOf_k0 (by omega) _ _) rfl fun x1 => ?_
      refine L_s (pc' := 19) rfl rfl ?_
      refine L_br (t := 66) (n := 22) rfl rfl (fun _ => ?_) (fun _ => ?_)
      · refine L_ii (pc' := 69) (L' := [some (.ref 215), some (.int v1), some (.int (v2 + 1))]) rfl rfl q1_1 rfl rfl rfl ?_
        refine L_s (pc' := 2) rfl rfl ?_
        exact ih _ _
      · refine L_s (pc' := 23) rfl rfl ?_
        refine L_s (pc' := 24) rfl rfl ?_
        refine L_bi (pc' := 26) rfl q2_6 rfl ?_
        refine L_ci (pc' := 29) (as := [.ref 215, .int v2, .int 6]) (rest := []) rfl rfl (e_m_channelOf_k6 (by omega) _ _) rfl fun x2 => ?_
        refine L_br (t := 66) (n := 32) rfl rfl (fun _ => ?_) (fun _ => ?_)
        · refine L_ii (pc' := 69) (L' := [some (.ref 215), some (.int v1), some (.int (v2 + 1))]) rfl rfl q1_1 rfl rfl rfl ?_
          refine L_s (pc' := 2) rfl rfl ?_
          exact ih _ _
        · refine L_bi (pc' := 34) rfl q2_100 rfl ?_
          refine L_s (pc' := 35) rfl rfl ?_
          refine L_s (pc' := 36) rfl rfl ?_
          refine L_ic (pc' := 37) rfl q1_4 rfl ?_
          refine L_ci (pc' := 40) (as := [.ref 215, .int v2, .int 4]) (rest := [.int 100]) rfl rfl (e_m_channelOf_k4 (by omega) _ _) rfl fun x3 => ?_
          refine L_s (pc' := 41) rfl rfl ?_
          refine L_ic (pc' := 42) rfl q1_1 rfl ?_
          refine L_s (pc' := 43) rfl rfl ?_
          refine L_s (pc' := 44) rfl rfl ?_
          refine L_gf (pc' := 47) rfl fr_215_2 rfl ?_
          refine L_s (pc' := 48) rfl rfl ?_
          refine L_s (pc' := 49) rfl rfl ?_
          refine L_ic (pc' := 50) rfl q1_1 rfl ?_
          refine L_ci (pc' := 53) (as := [.ref 215, .int v2, .int 1]) (rest := [.ref 218, .int ((100 * x3) + 1)]) rfl rfl (e_m_channelOf_k1 (by omega) _ _) rfl fun x4 => ?_
          refine L_rI (pc' := 54) rfl sh_218 (by decide) rfl ?_
          refine L_s (pc' := 55) rfl rfl ?_
          refine L_s (pc' := 56) rfl rfl ?_
          refine L_gf (pc' := 59) rfl fr_215_2 rfl ?_
          refine L_s (pc' := 60) rfl rfl ?_
          refine L_rI (pc' := 61) rfl sh_218 (by decide) rfl ?_
          refine L_br (t := 66) (n := 64) rfl rfl (fun _ => ?_) (fun _ => ?_)
          · refine L_ii (pc' := 69) (L' := [some (.ref 215), some (.int v1), some (.int (v2 + 1))]) rfl rfl q1_1 rfl rfl rfl ?_
            refine L_s (pc' := 2) rfl rfl ?_
            exact ih _ _
          · refine L_s (pc' := 65) rfl rfl ?_
            exact L_ret rfl ret_i rfl
theorem e_m_onward {X : Xx} {d : Nat} (hd : 2 ≤ d) (F : Nat) (v1 : Int32) (g : Sg) : ∀ r, m_onward F v1 g = some r → EvM zft mtl X d 162 [.ref 215, .int v1] (SHF, g) ((fun r : Int32 => ((some (.int r), (SHF, g)) : Out)) r) := by
  obtain ⟨d, rfl⟩ : ∃ d0, d = d0 + 1 := ⟨d - 1, by omega⟩
  have hd : 1 ≤ d := by omega
  refine E_in (f := (fun r : Int32 => ((some (.int r), (SHF, g)) : Out))) rfl (Nat.le_of_ble_eq_true rfl) ?_
  unfold m_onward
  change Lt X d (some .int) k_162 _ 0 [some (.ref 215), some (.int v1), none] [] g _
  refine L_ic (pc' := 1) rfl q1_0 rfl ?_
  refine L_s (pc' := 2) (L' := [some (.ref 215), some (.int v1), some (.int 0)]) rfl rfl ?_
  exact p_m_onward_2 hd F _ _
def m_along_21 (F : Nat) : Nat → Int32 → Int32 → Int32 → Int32 → Sg → Option (Int32 × Sg)
  | 0, _, _, _, _, _ => none
  | n + 1, v2, v3, v4, v5, g =>
    (if v4 = v2 then
      (some ((-1), g))
    else
      Option.bind (m_onward F v4 g) (fun x1 => (if ¬ v5 = v3 then
        Option.bind (m_channelOf_k1 x1 g) (fun x2 => (m_along_21 F n v2 v3 x2 (v5 + 1) g))
      else
        (some (x1, g)))))
def m_along (F : Nat) (v1 : Int32) (v2 : Int32) (v3 : Int32) (g : Sg) : Option (Int32 × Sg) :=
  Option.bind (m_leads F v1 v2 g) (fun (x1, g2) => (if x1 = 0 then
    (some ((-1), g2))
  else
    (if 0 ≤ v3 then
      (m_along_21 F F v2 v3 v1 0 g2)
    else
      (some ((-1), g2)))))
theorem p_m_along_21 {X : Xx} {d : Nat} (hd : 3 ≤ d) (F : Nat) : ∀ (n : Nat) (v2 : Int32) (v3 : Int32) (v4 : Int32) (v5 : Int32) (g : Sg), Lt X d (some .int) k_165 (fun r : Int32 × Sg => ((some (.int r.1), (SHF, r.2)) : Out)) 21 [some (.ref 215), none, some (.int v2), some (.int v3), some (.int v4), some (.int v5), none] [] g (m_along_21 F n v2 v3 v4 v5 g) := by
  intro n
  induction n with
  | zero => intros; exact L_none
  | succ n ih =>
    intro v2 v3 v4 v5 g
    show Lt X d (some .int) k_165 (fun r : Int32 × Sg => ((some (.int r.1), (SHF, r.2)) : Out)) 21 [some (.ref 215), none, some (.int v2), some (.int v3), some (.int v4), some (.int v5), none] [] g (
      (if v4 = v2 then
        (some ((-1), g))
      else
        Option.bind (m_onward F v4 g) (fun x1 => (if ¬ v5 = v3 then
          Option.bind (m_channelOf_k1 x1 g) (fun x2 => (m_along_21 F n v2 v3 x2 (v5 + 1) g))
        else
          (some (x1, g))))))
    refine L_s (pc' := 23) rfl rfl ?_
    refine L_s (pc' := 24) rfl rfl ?_
    refine L_br (t := 59) (n := 27) rfl rfl (fun _ => ?_) (fun _ => ?_)
    · refine L_ic (pc' := 60) rfl q1_m1 rfl ?_
      exact L_ret rfl ret_i rfl
    · refine L_s (pc' := 28) rfl rfl ?_
      refine L_s (pc' := 30) rfl rfl ?_
      refine L_ci (pc' := 33) (as := [.ref 215, .int v4]) (rest := []) rfl rfl (e_m_onward (by omega) F _ _) rfl fun x1 => ?_
      refine L_s (pc' := 35) (L' := [some (.ref 215), none, some (.int v2), some (.int v3), some (.int v4), some (.int v5), some (.int x1)]) rfl rfl ?_
      refine L_s (pc' := 37) rfl rfl ?_
      refine L_s (pc' := 38) rfl rfl ?_
      refine L_br (t := 44) (n := 41) rfl rfl (fun _ => ?_) (fun _ => ?_)
      · refine L_s (pc' := 45) rfl rfl ?_
        refine L_s (pc' := 47) rfl rfl ?_
        refine L_ic (pc' := 48) rfl q1_1 rfl ?_
        refine L_ci (pc' := 51) (as := [.ref 215, .int x1, .int 1]) (rest := []) rfl rfl (e_m_channelOf_k1 (by omega) _ _) rfl fun x2 => ?_
        refine L_s (pc' := 53) (L' := [some (.ref 215), none, some (.int v2), some (.int v3), some (.int x2), some (.int v5), some (.int x1)]) rfl rfl ?_
        refine L_ii (pc' := 56) (L' := [some (.ref 215), none, some (.int v2), some (.int v3), some (.int x2), some (.int (v5 + 1)), some (.int x1)]) rfl rfl q1_1 rfl rfl rfl ?_
        refine L_s (pc' := 21) rfl rfl ?_
        refine L_wk (L' := [some (.ref 215), none, some (.int v2), some (.int v3), some (.int x2), some (.int (v5 + 1)), none]) (wk_s (wk_s (wk_s (wk_s (wk_s (wk_s (wk_n wk_nil))))))) ?_
        exact ih _ _ _ _ _
      · refine L_s (pc' := 43) rfl rfl ?_
        exact L_ret rfl ret_i rfl
theorem e_m_along {X : Xx} {d : Nat} (hd : 4 ≤ d) (F : Nat) (v1 : Int32) (v2 : Int32) (v3 : Int32) (g : Sg) : ∀ r, m_along F v1 v2 v3 g = some r → EvM zft mtl X d 165 [.ref 215, .int v1, .int v2, .int v3] (SHF, g) ((fun r : Int32 × Sg => ((some (.int r.1), (SHF, r.2)) : Out)) r) := by
  obtain ⟨d, rfl⟩ : ∃ d0, d = d0 + 1 := ⟨d - 1, by omega⟩
  have hd : 3 ≤ d := by omega
  refine E_in (f := (fun r : Int32 × Sg => ((some (.int r.1), (SHF, r.2)) : Out))) rfl (Nat.le_of_ble_eq_true rfl) ?_
  unfold m_along
  change Lt X d (some .int) k_165 _ 0 [some (.ref 215), some (.int v1), some (.int v2), some (.int v3), none, none, none] [] g _
  refine L_s (pc' := 1) rfl rfl ?_
  refine L_s (pc' := 2) rfl rfl ?_
  refine L_s (pc' := 3) rfl rfl ?_
  refine L_cig (pc' := 6) (as := [.ref 215, .int v1, .int v2]) (rest := []) rfl rfl (e_m_leads (by omega) F _ _ _) rfl fun x1 g2 => ?_
  refine L_br (t := 13) (n := 9) rfl rfl (fun _ => ?_) (fun _ => ?_)
  · refine L_ic (pc' := 14) rfl q1_m1 rfl ?_
    exact L_ret rfl ret_i rfl
  · refine L_s (pc' := 10) rfl rfl ?_
    refine L_br (t := 15) (n := 13) rfl rfl (fun _ => ?_) (fun _ => ?_)
    · refine L_s (pc' := 16) rfl rfl ?_
      refine L_s (pc' := 18) (L' := [some (.ref 215), some (.int v1), some (.int v2), some (.int v3), some (.int v1), none, none]) rfl rfl ?_
      refine L_ic (pc' := 19) rfl q1_0 rfl ?_
      refine L_s (pc' := 21) (L' := [some (.ref 215), some (.int v1), some (.int v2), some (.int v3), some (.int v1), some (.int 0), none]) rfl rfl ?_
      refine L_wk (L' := [some (.ref 215), none, some (.int v2), some (.int v3), some (.int v1), some (.int 0), none]) (wk_s (wk_n (wk_s (wk_s (wk_s (wk_s (wk_s wk_nil))))))) ?_
      exact p_m_along_21 hd F F _ _ _ _ _
    · refine L_ic (pc' := 14) rfl q1_m1 rfl ?_
      exact L_ret rfl ret_i rfl
