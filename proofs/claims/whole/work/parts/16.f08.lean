/-! printed by wip/whole/decomp.py -/
def x_copyInts_c13  (g : Sg) : Option (Sg) :=
  lt1 (cp2 g 12 0 59 0 (Int32.toNatClampNeg 14)) (fun g1 => (some g1))
theorem e_x_copyInts_c13 {X : Xx} {d : Nat} (hd : 1 ≤ d)  (g : Sg) : ∀ r, x_copyInts_c13  g = some r → EvM zft mtl X d 145 [.ref 12, .ref 59] (SHF, g) ((fun r : Sg => ((none, (SHF, r)) : Out)) r) := by
  obtain ⟨d, rfl⟩ : ∃ d0, d = d0 + 1 := ⟨d - 1, by omega⟩
  have hd : 0 ≤ d := by omega
  refine E_in (f := (fun r : Sg => ((none, (SHF, r)) : Out))) rfl (Nat.le_of_ble_eq_true rfl) ?_
  unfold x_copyInts_c13
  change Lt X d none k_145 _ 0 [some (.ref 12), some (.ref 59)] [] g _
  refine L_s (pc' := 1) rfl rfl ?_
  refine L_ic (pc' := 2) rfl q1_0 rfl ?_
  refine L_s (pc' := 3) rfl rfl ?_
  refine L_ic (pc' := 4) rfl q1_0 rfl ?_
  refine L_s (pc' := 5) rfl rfl ?_
  refine L_s (pc' := 6) (st' := [.int 14, .int 0, .ref 59, .int 0, .ref 12]) rfl rfl ?_
  refine L_s (pc' := 7) rfl rfl ?_
  refine L_s (pc' := 8) (st' := [.int 14, .int 14, .int 0, .ref 59, .int 0, .ref 12]) rfl rfl ?_
  refine L_s (pc' := 11) rfl rfl ?_
  refine L_e (b := 14) (by decide) ?_
  refine L_cp (pc' := 14) rfl sh_12 sh_59 (by decide) (by decide) (by decide) (by decide) rfl rfl ?_
  refine L_let fun g1 _ => ?_
  exact L_ret rfl rfl rfl
def x_copyInts_c14  (g : Sg) : Option (Sg) :=
  lt1 (cp2 g 13 0 60 0 (Int32.toNatClampNeg 14)) (fun g1 => (some g1))
theorem e_x_copyInts_c14 {X : Xx} {d : Nat} (hd : 1 ≤ d)  (g : Sg) : ∀ r, x_copyInts_c14  g = some r → EvM zft mtl X d 145 [.ref 13, .ref 60] (SHF, g) ((fun r : Sg => ((none, (SHF, r)) : Out)) r) := by
  obtain ⟨d, rfl⟩ : ∃ d0, d = d0 + 1 := ⟨d - 1, by omega⟩
  have hd : 0 ≤ d := by omega
  refine E_in (f := (fun r : Sg => ((none, (SHF, r)) : Out))) rfl (Nat.le_of_ble_eq_true rfl) ?_
  unfold x_copyInts_c14
  change Lt X d none k_145 _ 0 [some (.ref 13), some (.ref 60)] [] g _
  refine L_s (pc' := 1) rfl rfl ?_
  refine L_ic (pc' := 2) rfl q1_0 rfl ?_
  refine L_s (pc' := 3) rfl rfl ?_
  refine L_ic (pc' := 4) rfl q1_0 rfl ?_
  refine L_s (pc' := 5) rfl rfl ?_
  refine L_s (pc' := 6) (st' := [.int 14, .int 0, .ref 60, .int 0, .ref 13]) rfl rfl ?_
  refine L_s (pc' := 7) rfl rfl ?_
  refine L_s (pc' := 8) (st' := [.int 14, .int 14, .int 0, .ref 60, .int 0, .ref 13]) rfl rfl ?_
  refine L_s (pc' := 11) rfl rfl ?_
  refine L_e (b := 14) (by decide) ?_
  refine L_cp (pc' := 14) rfl sh_13 sh_60 (by decide) (by decide) (by decide) (by decide) rfl rfl ?_
  refine L_let fun g1 _ => ?_
  exact L_ret rfl rfl rfl
def x_copyInts_c15  (g : Sg) : Option (Sg) :=
  lt1 (cp2 g 14 0 61 0 (Int32.toNatClampNeg 14)) (fun g1 => (some g1))
theorem e_x_copyInts_c15 {X : Xx} {d : Nat} (hd : 1 ≤ d)  (g : Sg) : ∀ r, x_copyInts_c15  g = some r → EvM zft mtl X d 145 [.ref 14, .ref 61] (SHF, g) ((fun r : Sg => ((none, (SHF, r)) : Out)) r) := by
  obtain ⟨d, rfl⟩ : ∃ d0, d = d0 + 1 := ⟨d - 1, by omega⟩
  have hd : 0 ≤ d := by omega
  refine E_in (f := (fun r : Sg => ((none, (SHF, r)) : Out))) rfl (Nat.le_of_ble_eq_true rfl) ?_
  unfold x_copyInts_c15
  change Lt X d none k_145 _ 0 [some (.ref 14), some (.ref 61)] [] g _
  refine L_s (pc' := 1) rfl rfl ?_
  refine L_ic (pc' := 2) rfl q1_0 rfl ?_
  refine L_s (pc' := 3) rfl rfl ?_
  refine L_ic (pc' := 4) rfl q1_0 rfl ?_
  refine L_s (pc' := 5) rfl rfl ?_
  refine L_s (pc' := 6) (st' := [.int 14, .int 0, .ref 61, .int 0, .ref 14]) rfl rfl ?_
  refine L_s (pc' := 7) rfl rfl ?_
  refine L_s (pc' := 8) (st' := [.int 14, .int 14, .int 0, .ref 61, .int 0, .ref 14]) rfl rfl ?_
  refine L_s (pc' := 11) rfl rfl ?_
  refine L_e (b := 14) (by decide) ?_
  refine L_cp (pc' := 14) rfl sh_14 sh_61 (by decide) (by decide) (by decide) (by decide) rfl rfl ?_
  refine L_let fun g1 _ => ?_
  exact L_ret rfl rfl rfl
def x_copyFlags_c1  (g : Sg) : Option (Sg) :=
  lt1 (cp2 g 15 0 62 0 (Int32.toNatClampNeg 14)) (fun g1 => (some g1))
theorem e_x_copyFlags_c1 {X : Xx} {d : Nat} (hd : 1 ≤ d)  (g : Sg) : ∀ r, x_copyFlags_c1  g = some r → EvM zft mtl X d 147 [.ref 15, .ref 62] (SHF, g) ((fun r : Sg => ((none, (SHF, r)) : Out)) r) := by
  obtain ⟨d, rfl⟩ : ∃ d0, d = d0 + 1 := ⟨d - 1, by omega⟩
  have hd : 0 ≤ d := by omega
  refine E_in (f := (fun r : Sg => ((none, (SHF, r)) : Out))) rfl (Nat.le_of_ble_eq_true rfl) ?_
  unfold x_copyFlags_c1
  change Lt X d none k_147 _ 0 [some (.ref 15), some (.ref 62)] [] g _
  refine L_s (pc' := 1) rfl rfl ?_
  refine L_ic (pc' := 2) rfl q1_0 rfl ?_
  refine L_s (pc' := 3) rfl rfl ?_
  refine L_ic (pc' := 4) rfl q1_0 rfl ?_
  refine L_s (pc' := 5) rfl rfl ?_
  refine L_s (pc' := 6) (st' := [.int 14, .int 0, .ref 62, .int 0, .ref 15]) rfl rfl ?_
  refine L_s (pc' := 7) rfl rfl ?_
  refine L_s (pc' := 8) (st' := [.int 14, .int 14, .int 0, .ref 62, .int 0, .ref 15]) rfl rfl ?_
  refine L_s (pc' := 11) rfl rfl ?_
  refine L_e (b := 14) (by decide) ?_
  refine L_cp (pc' := 14) rfl sh_15 sh_62 (by decide) (by decide) (by decide) (by decide) rfl rfl ?_
  refine L_let fun g1 _ => ?_
  exact L_ret rfl rfl rfl
def x_copyInts_c16  (g : Sg) : Option (Sg) :=
  lt1 (cp2 g 7 0 54 0 (Int32.toNatClampNeg 10)) (fun g1 => (some g1))
theorem e_x_copyInts_c16 {X : Xx} {d : Nat} (hd : 1 ≤ d)  (g : Sg) : ∀ r, x_copyInts_c16  g = some r → EvM zft mtl X d 145 [.ref 7, .ref 54] (SHF, g) ((fun r : Sg => ((none, (SHF, r)) : Out)) r) := by
  obtain ⟨d, rfl⟩ : ∃ d0, d = d0 + 1 := ⟨d - 1, by omega⟩
  have hd : 0 ≤ d := by omega
  refine E_in (f := (fun r : Sg => ((none, (SHF, r)) : Out))) rfl (Nat.le_of_ble_eq_true rfl) ?_
  unfold x_copyInts_c16
  change Lt X d none k_145 _ 0 [some (.ref 7), some (.ref 54)] [] g _
  refine L_s (pc' := 1) rfl rfl ?_
  refine L_ic (pc' := 2) rfl q1_0 rfl ?_
  refine L_s (pc' := 3) rfl rfl ?_
  refine L_ic (pc' := 4) rfl q1_0 rfl ?_
  refine L_s (pc' := 5) rfl rfl ?_
  refine L_s (pc' := 6) (st' := [.int 10, .int 0, .ref 54, .int 0, .ref 7]) rfl rfl ?_
  refine L_s (pc' := 7) rfl rfl ?_
  refine L_s (pc' := 8) (st' := [.int 10, .int 10, .int 0, .ref 54, .int 0, .ref 7]) rfl rfl ?_
  refine L_s (pc' := 11) rfl rfl ?_
  refine L_e (b := 10) (by decide) ?_
  refine L_cp (pc' := 14) rfl sh_7 sh_54 (by decide) (by decide) (by decide) (by decide) rfl rfl ?_
  refine L_let fun g1 _ => ?_
  exact L_ret rfl rfl rfl
def x_copyInts_c17  (g : Sg) : Option (Sg) :=
  lt1 (cp2 g 17 0 64 0 (Int32.toNatClampNeg 126)) (fun g1 => (some g1))
theorem e_x_copyInts_c17 {X : Xx} {d : Nat} (hd : 1 ≤ d)  (g : Sg) : ∀ r, x_copyInts_c17  g = some r → EvM zft mtl X d 145 [.ref 17, .ref 64] (SHF, g) ((fun r : Sg => ((none, (SHF, r)) : Out)) r) := by
  obtain ⟨d, rfl⟩ : ∃ d0, d = d0 + 1 := ⟨d - 1, by omega⟩
  have hd : 0 ≤ d := by omega
  refine E_in (f := (fun r : Sg => ((none, (SHF, r)) : Out))) rfl (Nat.le_of_ble_eq_true rfl) ?_
  unfold x_copyInts_c17
  change Lt X d none k_145 _ 0 [some (.ref 17), some (.ref 64)] [] g _
  refine L_s (pc' := 1) rfl rfl ?_
  refine L_ic (pc' := 2) rfl q1_0 rfl ?_
  refine L_s (pc' := 3) rfl rfl ?_
  refine L_ic (pc' := 4) rfl q1_0 rfl ?_
  refine L_s (pc' := 5) rfl rfl ?_
  refine L_s (pc' := 6) (st' := [.int 126, .int 0, .ref 64, .int 0, .ref 17]) rfl rfl ?_
  refine L_s (pc' := 7) rfl rfl ?_
  refine L_s (pc' := 8) (st' := [.int 126, .int 126, .int 0, .ref 64, .int 0, .ref 17]) rfl rfl ?_
  refine L_s (pc' := 11) rfl rfl ?_
  refine L_e (b := 126) (by decide) ?_
  refine L_cp (pc' := 14) rfl sh_17 sh_64 (by decide) (by decide) (by decide) (by decide) rfl rfl ?_
  refine L_let fun g1 _ => ?_
  exact L_ret rfl rfl rfl
def x_copyInts_c18  (g : Sg) : Option (Sg) :=
  lt1 (cp2 g 8 0 55 0 (Int32.toNatClampNeg 10)) (fun g1 => (some g1))
theorem e_x_copyInts_c18 {X : Xx} {d : Nat} (hd : 1 ≤ d)  (g : Sg) : ∀ r, x_copyInts_c18  g = some r → EvM zft mtl X d 145 [.ref 8, .ref 55] (SHF, g) ((fun r : Sg => ((none, (SHF, r)) : Out)) r) := by
  obtain ⟨d, rfl⟩ : ∃ d0, d = d0 + 1 := ⟨d - 1, by omega⟩
  have hd : 0 ≤ d := by omega
  refine E_in (f := (fun r : Sg => ((none, (SHF, r)) : Out))) rfl (Nat.le_of_ble_eq_true rfl) ?_
  unfold x_copyInts_c18
  change Lt X d none k_145 _ 0 [some (.ref 8), some (.ref 55)] [] g _
  refine L_s (pc' := 1) rfl rfl ?_
  refine L_ic (pc' := 2) rfl q1_0 rfl ?_
  refine L_s (pc' := 3) rfl rfl ?_
  refine L_ic (pc' := 4) rfl q1_0 rfl ?_
  refine L_s (pc' := 5) rfl rfl ?_
  refine L_s (pc' := 6) (st' := [.int 10, .int 0, .ref 55, .int 0, .ref 8]) rfl rfl ?_
  refine L_s (pc' := 7) rfl rfl ?_
  refine L_s (pc' := 8) (st' := [.int 10, .int 10, .int 0, .ref 55, .int 0, .ref 8]) rfl rfl ?_
  refine L_s (pc' := 11) rfl rfl ?_
  refine L_e (b := 10) (by decide) ?_
  refine L_cp (pc' := 14) rfl sh_8 sh_55 (by decide) (by decide) (by decide) (by decide) rfl rfl ?_
  refine L_let fun g1 _ => ?_
  exact L_ret rfl rfl rfl
def x_copyInts_c19  (g : Sg) : Option (Sg) :=
  lt1 (cp2 g 18 0 65 0 (Int32.toNatClampNeg 126)) (fun g1 => (some g1))
theorem e_x_copyInts_c19 {X : Xx} {d : Nat} (hd : 1 ≤ d)  (g : Sg) : ∀ r, x_copyInts_c19  g = some r → EvM zft mtl X d 145 [.ref 18, .ref 65] (SHF, g) ((fun r : Sg => ((none, (SHF, r)) : Out)) r) := by
  obtain ⟨d, rfl⟩ : ∃ d0, d = d0 + 1 := ⟨d - 1, by omega⟩
  have hd : 0 ≤ d := by omega
  refine E_in (f := (fun r : Sg => ((none, (SHF, r)) : Out))) rfl (Nat.le_of_ble_eq_true rfl) ?_
  unfold x_copyInts_c19
  change Lt X d none k_145 _ 0 [some (.ref 18), some (.ref 65)] [] g _
  refine L_s (pc' := 1) rfl rfl ?_
  refine L_ic (pc' := 2) rfl q1_0 rfl ?_
  refine L_s (pc' := 3) rfl rfl ?_
  refine L_ic (pc' := 4) rfl q1_0 rfl ?_
  refine L_s (pc' := 5) rfl rfl ?_
  refine L_s (pc' := 6) (st' := [.int 126, .int 0, .ref 65, .int 0, .ref 18]) rfl rfl ?_
  refine L_s (pc' := 7) rfl rfl ?_
  refine L_s (pc' := 8) (st' := [.int 126, .int 126, .int 0, .ref 65, .int 0, .ref 18]) rfl rfl ?_
  refine L_s (pc' := 11) rfl rfl ?_
  refine L_e (b := 126) (by decide) ?_
  refine L_cp (pc' := 14) rfl sh_18 sh_65 (by decide) (by decide) (by decide) (by decide) rfl rfl ?_
  refine L_let fun g1 _ => ?_
  exact L_ret rfl rfl rfl
def x_copyInts_c20  (g : Sg) : Option (Sg) :=
  lt1 (cp2 g 19 0 66 0 (Int32.toNatClampNeg 2)) (fun g1 => (some g1))
theorem e_x_copyInts_c20 {X : Xx} {d : Nat} (hd : 1 ≤ d)  (g : Sg) : ∀ r, x_copyInts_c20  g = some r → EvM zft mtl X d 145 [.ref 19, .ref 66] (SHF, g) ((fun r : Sg => ((none, (SHF, r)) : Out)) r) := by
  obtain ⟨d, rfl⟩ : ∃ d0, d = d0 + 1 := ⟨d - 1, by omega⟩
  have hd : 0 ≤ d := by omega
  refine E_in (f := (fun r : Sg => ((none, (SHF, r)) : Out))) rfl (Nat.le_of_ble_eq_true rfl) ?_
  unfold x_copyInts_c20
  change Lt X d none k_145 _ 0 [some (.ref 19), some (.ref 66)] [] g _
  refine L_s (pc' := 1) rfl rfl ?_
  refine L_ic (pc' := 2) rfl q1_0 rfl ?_
  refine L_s (pc' := 3) rfl rfl ?_
  refine L_ic (pc' := 4) rfl q1_0 rfl ?_
  refine L_s (pc' := 5) rfl rfl ?_
  refine L_s (pc' := 6) (st' := [.int 2, .int 0, .ref 66, .int 0, .ref 19]) rfl rfl ?_
  refine L_s (pc' := 7) rfl rfl ?_
  refine L_s (pc' := 8) (st' := [.int 2, .int 2, .int 0, .ref 66, .int 0, .ref 19]) rfl rfl ?_
  refine L_s (pc' := 11) rfl rfl ?_
  refine L_e (b := 2) (by decide) ?_
  refine L_cp (pc' := 14) rfl sh_19 sh_66 (by decide) (by decide) (by decide) (by decide) rfl rfl ?_
  refine L_let fun g1 _ => ?_
  exact L_ret rfl rfl rfl
def x_copyInts_c21  (g : Sg) : Option (Sg) :=
  lt1 (cp2 g 20 0 67 0 (Int32.toNatClampNeg 2)) (fun g1 => (some g1))
theorem e_x_copyInts_c21 {X : Xx} {d : Nat} (hd : 1 ≤ d)  (g : Sg) : ∀ r, x_copyInts_c21  g = some r → EvM zft mtl X d 145 [.ref 20, .ref 67] (SHF, g) ((fun r : Sg => ((none, (SHF, r)) : Out)) r) := by
  obtain ⟨d, rfl⟩ : ∃ d0, d = d0 + 1 := ⟨d - 1, by omega⟩
  have hd : 0 ≤ d := by omega
  refine E_in (f := (fun r : Sg => ((none, (SHF, r)) : Out))) rfl (Nat.le_of_ble_eq_true rfl) ?_
  unfold x_copyInts_c21
  change Lt X d none k_145 _ 0 [some (.ref 20), some (.ref 67)] [] g _
  refine L_s (pc' := 1) rfl rfl ?_
  refine L_ic (pc' := 2) rfl q1_0 rfl ?_
  refine L_s (pc' := 3) rfl rfl ?_
  refine L_ic (pc' := 4) rfl q1_0 rfl ?_
  refine L_s (pc' := 5) rfl rfl ?_
  refine L_s (pc' := 6) (st' := [.int 2, .int 0, .ref 67, .int 0, .ref 20]) rfl rfl ?_
  refine L_s (pc' := 7) rfl rfl ?_
  refine L_s (pc' := 8) (st' := [.int 2, .int 2, .int 0, .ref 67, .int 0, .ref 20]) rfl rfl ?_
  refine L_s (pc' := 11) rfl rfl ?_
  refine L_e (b := 2) (by decide) ?_
  refine L_cp (pc' := 14) rfl sh_20 sh_67 (by decide) (by decide) (by decide) (by decide) rfl rfl ?_
  refine L_let fun g1 _ => ?_
  exact L_ret rfl rfl rfl
def x_copyInts_c22  (g : Sg) : Option (Sg) :=
  lt1 (cp2 g 21 0 68 0 (Int32.toNatClampNeg 2)) (fun g1 => (some g1))
theorem e_x_copyInts_c22 {X : Xx} {d : Nat} (hd : 1 ≤ d)  (g : Sg) : ∀ r, x_copyInts_c22  g = some r → EvM zft mtl X d 145 [.ref 21, .ref 68] (SHF, g) ((fun r : Sg => ((none, (SHF, r)) : Out)) r) := by
  obtain ⟨d, rfl⟩ : ∃ d0, d = d0 + 1 := ⟨d - 1, by omega⟩
  have hd : 0 ≤ d := by omega
  refine E_in (f := (fun r : Sg => ((none, (SHF, r)) : Out))) rfl (Nat.le_of_ble_eq_true rfl) ?_
  unfold x_copyInts_c22
  change Lt X d none k_145 _ 0 [some (.ref 21), some (.ref 68)] [] g _
  refine L_s (pc' := 1) rfl rfl ?_
  refine L_ic (pc' := 2) rfl q1_0 rfl ?_
  refine L_s (pc' := 3) rfl rfl ?_
  refine L_ic (pc' := 4) rfl q1_0 rfl ?_
  refine L_s (pc' := 5) rfl rfl ?_
  refine L_s (pc' := 6) (st' := [.int 2, .int 0, .ref 68, .int 0, .ref 21]) rfl rfl ?_
  refine L_s (pc' := 7) rfl rfl ?_
  refine L_s (pc' := 8) (st' := [.int 2, .int 2, .int 0, .ref 68, .int 0, .ref 21]) rfl rfl ?_
  refine L_s (pc' := 11) rfl rfl ?_
  refine L_e (b := 2) (by decide) ?_
  refine L_cp (pc' := 14) rfl sh_21 sh_68 (by decide) (by decide) (by decide) (by decide) rfl rfl ?_
  refine L_let fun g1 _ => ?_
  exact L_ret rfl rfl rfl
def net_copyFrom  (g : Sg) : Option (Sg) :=
  lt1 (up2 g 49 0 (g 2 0)) (fun g1 => lt1 (up2 g1 49 1 (g1 2 1)) (fun g2 => lt1 (up2 g2 49 6 (g2 2 6)) (fun g3 => Option.bind (x_copyInts_c7 g3) (fun g4 => Option.bind (x_copyInts_c8 g4) (fun g5 => Option.bind (x_copyInts_c9 g5) (fun g6 => Option.bind (x_copyInts_c10 g6) (fun g7 => Option.bind (x_copyInts_c11 g7) (fun g8 => Option.bind (x_copyInts_c12 g8) (fun g9 => Option.bind (x_copyInts_c13 g9) (fun g10 => Option.bind (x_copyInts_c14 g10) (fun g11 => Option.bind (x_copyInts_c15 g11) (fun g12 => Option.bind (x_copyFlags_c1 g12) (fun g13 => Option.bind (x_copyInts_c16 g13) (fun g14 => Option.bind (x_copyInts_c17 g14) (fun g15 => Option.bind (x_copyInts_c18 g15) (fun g16 => Option.bind (x_copyInts_c19 g16) (fun g17 => Option.bind (x_copyInts_c20 g17) (fun g18 => Option.bind (x_copyInts_c21 g18) (fun g19 => Option.bind (x_copyInts_c22 g19) (fun g20 => (some g20)))))))))))))))))))))
theorem e_net_copyFrom {X : Xx} {d : Nat} (hd : 2 ≤ d)  (g : Sg) : ∀ r, net_copyFrom  g = some r → EvM zft mtl X d 42 [.ref 49, .ref 2] (SHF, g) ((fun r : Sg => ((none, (SHF, r)) : Out)) r) := by
  obtain ⟨d, rfl⟩ : ∃ d0, d = d0 + 1 := ⟨d - 1, by omega⟩
  have hd : 1 ≤ d := by omega
  refine E_in (f := (fun r : Sg => ((none, (SHF, r)) : Out))) rfl (Nat.le_of_ble_eq_true rfl) ?_
  unfold net_copyFrom
  change Lt X d none k_42 _ 0 [some (.ref 49), some (.ref 2), none] [] g _
  refine L_s (pc' := 1) rfl rfl ?_
  refine L_s (pc' := 2) rfl rfl ?_
  refine L_gf (pc' := 5) rfl fi_2_0 rfl ?_
  refine L_pf (pc' := 8) rfl sh_49 (by decide) rfl rfl ?_
  refine L_let fun g1 _ => ?_
  refine L_s (pc' := 9) rfl rfl ?_
  refine L_s (pc' := 10) rfl rfl ?_
  refine L_gf (pc' := 13) rfl fi_2_1 rfl ?_
  refine L_pf (pc' := 16) rfl sh_49 (by decide) rfl rfl ?_
  refine L_let fun g2 _ => ?_
  refine L_s (pc' := 17) rfl rfl ?_
  refine L_s (pc' := 18) rfl rfl ?_
  refine L_gf (pc' := 21) rfl fi_2_6 rfl ?_
  refine L_pf (pc' := 24) rfl sh_49 (by decide) rfl rfl ?_
  refine L_let fun g3 _ => ?_
  refine L_s (pc' := 25) rfl rfl ?_
  refine L_gf (pc' := 28) rfl fr_2_2 rfl ?_
  refine L_s (pc' := 29) rfl rfl ?_
  refine L_gf (pc' := 32) rfl fr_49_2 rfl ?_
  refine L_cv (pc' := 35) (as := [.ref 3, .ref 50]) (rest := []) rfl rfl (e_x_copyInts_c7 (by omega) _) rfl fun g4 => ?_
  refine L_s (pc' := 36) rfl rfl ?_
  refine L_gf (pc' := 39) rfl fr_2_3 rfl ?_
  refine L_s (pc' := 40) rfl rfl ?_
  refine L_gf (pc' := 43) rfl fr_49_3 rfl ?_
  refine L_cv (pc' := 46) (as := [.ref 4, .ref 51]) (rest := []) rfl rfl (e_x_copyInts_c8 (by omega) _) rfl fun g5 => ?_
  refine L_s (pc' := 47) rfl rfl ?_
  refine L_gf (pc' := 50) rfl fr_2_4 rfl ?_
  refine L_s (pc' := 51) rfl rfl ?_
  refine L_gf (pc' := 54) rfl fr_49_4 rfl ?_
  refine L_cv (pc' := 57) (as := [.ref 5, .ref 52]) (rest := []) rfl rfl (e_x_copyInts_c9 (by omega) _) rfl fun g6 => ?_
  refine L_s (pc' := 58) rfl rfl ?_
  refine L_gf (pc' := 61) rfl fr_2_7 rfl ?_
  refine L_s (pc' := 62) rfl rfl ?_
  refine L_gf (pc' := 65) rfl fr_49_7 rfl ?_
  refine L_cv (pc' := 68) (as := [.ref 9, .ref 56]) (rest := []) rfl rfl (e_x_copyInts_c10 (by omega) _) rfl fun g7 => ?_
  refine L_s (pc' := 69) rfl rfl ?_
  refine L_gf (pc' := 72) rfl fr_2_8 rfl ?_
  refine L_s (pc' := 73) rfl rfl ?_
  refine L_gf (pc' := 76) rfl fr_49_8 rfl ?_
  refine L_cv (pc' := 79) (as := [.ref 10, .ref 57]) (rest := []) rfl rfl (e_x_copyInts_c11 (by omega) _) rfl fun g8 => ?_
  refine L_s (pc' := 80) rfl rfl ?_
  refine L_gf (pc' := 83) rfl fr_2_9 rfl ?_
  refine L_s (pc' := 84) rfl rfl ?_
  refine L_gf (pc' := 87) rfl fr_49_9 rfl ?_
  refine L_cv (pc' := 90) (as := [.ref 11, .ref 58]) (rest := []) rfl rfl (e_x_copyInts_c12 (by omega) _) rfl fun g9 => ?_
  refine L_s (pc' := 91) rfl rfl ?_
  refine L_gf (pc' := 94) rfl fr_2_10 rfl ?_
  refine L_s (pc' := 95) rfl rfl ?_
  refine L_gf (pc' := 98) rfl fr_49_10 rfl ?_
  refine L_cv (pc' := 101) (as := [.ref 12, .ref 59]) (rest := []) rfl rfl (e_x_copyInts_c13 (by omega) _) rfl fun g10 => ?_
  refine L_s (pc' := 102) rfl rfl ?_
  refine L_gf (pc' := 105) rfl fr_2_11 rfl ?_
  refine L_s (pc' := 106) rfl rfl ?_
  refine L_gf (pc' := 109) rfl fr_49_11 rfl ?_
  refine L_cv (pc' := 112) (as := [.ref 13, .ref 60]) (rest := []) rfl rfl (e_x_copyInts_c14 (by omega) _) rfl fun g11 => ?_
  refine L_s (pc' := 113) rfl rfl ?_
  refine L_gf (pc' := 116) rfl fr_2_12 rfl ?_
  refine L_s (pc' := 117) rfl rfl ?_
  refine L_gf (pc' := 120) rfl fr_49_12 rfl ?_
  refine L_cv (pc' := 123) (as := [.ref 14, .ref 61]) (rest := []) rfl rfl (e_x_copyInts_c15 (by omega) _) rfl fun g12 => ?_
  refine L_s (pc' := 124) rfl rfl ?_
  refine L_gf (pc' := 127) rfl fr_2_13 rfl ?_
  refine L_s (pc' := 128) rfl rfl ?_
  refine L_gf (pc' := 131) rfl fr_49_13 rfl ?_
  refine L_cv (pc' := 134) (as := [.ref 15, .ref 62]) (rest := []) rfl rfl (e_x_copyFlags_c1 (by omega) _) rfl fun g13 => ?_
  refine L_ic (pc' := 135) rfl q1_0 rfl ?_
  refine L_s (pc' := 136) (L' := [some (.ref 49), some (.ref 2), some (.int 0)]) rfl rfl ?_
  refine L_s (pc' := 137) rfl rfl ?_
  refine L_ic (pc' := 138) rfl q1_2 rfl ?_
  refine L_bf (c := (2 : Int32) ≤ 0) (t := 177) (n := 141) rfl rfl (by decide) ?_
  refine L_s (pc' := 142) rfl rfl ?_
  refine L_gf (pc' := 145) rfl fr_2_5 rfl ?_
  refine L_s (pc' := 146) rfl rfl ?_
  refine L_aa (pc' := 147) rfl sh_6 (by decide) (by decide) rfl rfl ?_
  refine L_s (pc' := 148) rfl rfl ?_
  refine L_gf (pc' := 151) rfl fr_49_5 rfl ?_
  refine L_s (pc' := 152) rfl rfl ?_
  refine L_aa (pc' := 153) rfl sh_53 (by decide) (by decide) rfl rfl ?_
  refine L_cv (pc' := 156) (as := [.ref 7, .ref 54]) (rest := []) rfl rfl (e_x_copyInts_c16 (by omega) _) rfl fun g14 => ?_
  refine L_s (pc' := 157) rfl rfl ?_
  refine L_gf (pc' := 160) rfl fr_2_14 rfl ?_
  refine L_s (pc' := 161) rfl rfl ?_
  refine L_aa (pc' := 162) rfl sh_16 (by decide) (by decide) rfl rfl ?_
  refine L_s (pc' := 163) rfl rfl ?_
  refine L_gf (pc' := 166) rfl fr_49_14 rfl ?_
  refine L_s (pc' := 167) rfl rfl ?_
  refine L_aa (pc' := 168) rfl sh_63 (by decide) (by decide) rfl rfl ?_
  refine L_cv (pc' := 171) (as := [.ref 17, .ref 64]) (rest := []) rfl rfl (e_x_copyInts_c17 (by omega) _) rfl fun g15 => ?_
  refine L_ii (pc' := 174) (L' := [some (.ref 49), some (.ref 2), some (.int 1)]) rfl rfl q1_1 (by decide : (0 : Int32) + 1 = 1) rfl rfl ?_
  refine L_s (pc' := 136) rfl rfl ?_
  refine L_s (pc' := 137) rfl rfl ?_
  refine L_ic (pc' := 138) rfl q1_2 rfl ?_
  refine L_bf (c := (2 : Int32) ≤ 1) (t := 177) (n := 141) rfl rfl (by decide) ?_
  refine L_s (pc' := 142) rfl rfl ?_
  refine L_gf (pc' := 145) rfl fr_2_5 rfl ?_
  refine L_s (pc' := 146) rfl rfl ?_
  refine L_aa (pc' := 147) rfl sh_6 (by decide) (by decide) rfl rfl ?_
  refine L_s (pc' := 148) rfl rfl ?_
  refine L_gf (pc' := 151) rfl fr_49_5 rfl ?_
  refine L_s (pc' := 152) rfl rfl ?_
  refine L_aa (pc' := 153) rfl sh_53 (by decide) (by decide) rfl rfl ?_
  refine L_cv (pc' := 156) (as := [.ref 8, .ref 55]) (rest := []) rfl rfl (e_x_copyInts_c18 (by omega) _) rfl fun g16 => ?_
  refine L_s (pc' := 157) rfl rfl ?_
  refine L_gf (pc' := 160) rfl fr_2_14 rfl ?_
  refine L_s (pc' := 161) rfl rfl ?_
  refine L_aa (pc' := 162) rfl sh_16 (by decide) (by decide) rfl rfl ?_
  refine L_s (pc' := 163) rfl rfl ?_
  refine L_gf (pc' := 166) rfl fr_49_14 rfl ?_
  refine L_s (pc' := 167) rfl rfl ?_
  refine L_aa (pc' := 168) rfl sh_63 (by decide) (by decide) rfl rfl ?_
  refine L_cv (pc' := 171) (as := [.ref 18, .ref 65]) (rest := []) rfl rfl (e_x_copyInts_c19 (by omega) _) rfl fun g17 => ?_
  refine L_ii (pc' := 174) (L' := [some (.ref 49), some (.ref 2), some (.int 2)]) rfl rfl q1_1 (by decide : (1 : Int32) + 1 = 2) rfl rfl ?_
  refine L_s (pc' := 136) rfl rfl ?_
  refine L_s (pc' := 137) rfl rfl ?_
  refine L_ic (pc' := 138) rfl q1_2 rfl ?_
  refine L_bt (c := (2 : Int32) ≤ 2) (t := 177) (n := 141) rfl rfl (by decide) ?_
  refine L_s (pc' := 178) rfl rfl ?_
  refine L_gf (pc' := 181) rfl fr_2_15 rfl ?_
  refine L_s (pc' := 182) rfl rfl ?_
  refine L_gf (pc' := 185) rfl fr_49_15 rfl ?_
  refine L_cv (pc' := 188) (as := [.ref 19, .ref 66]) (rest := []) rfl rfl (e_x_copyInts_c20 (by omega) _) rfl fun g18 => ?_
  refine L_s (pc' := 189) rfl rfl ?_
  refine L_gf (pc' := 192) rfl fr_2_16 rfl ?_
  refine L_s (pc' := 193) rfl rfl ?_
  refine L_gf (pc' := 196) rfl fr_49_16 rfl ?_
  refine L_cv (pc' := 199) (as := [.ref 20, .ref 67]) (rest := []) rfl rfl (e_x_copyInts_c21 (by omega) _) rfl fun g19 => ?_
  refine L_s (pc' := 200) rfl rfl ?_
  refine L_gf (pc' := 203) rfl fr_2_17 rfl ?_
  refine L_s (pc' := 204) rfl rfl ?_
  refine L_gf (pc' := 207) rfl fr_49_17 rfl ?_
  refine L_cv (pc' := 210) (as := [.ref 21, .ref 68]) (rest := []) rfl rfl (e_x_copyInts_c22 (by omega) _) rfl fun g20 => ?_
  exact L_ret rfl rfl rfl
def x_copyInts_c23  (g : Sg) : Option (Sg) :=
  lt1 (cp2 g 23 0 70 0 (Int32.toNatClampNeg 8)) (fun g1 => (some g1))
theorem e_x_copyInts_c23 {X : Xx} {d : Nat} (hd : 1 ≤ d)  (g : Sg) : ∀ r, x_copyInts_c23  g = some r → EvM zft mtl X d 145 [.ref 23, .ref 70] (SHF, g) ((fun r : Sg => ((none, (SHF, r)) : Out)) r) := by
  obtain ⟨d, rfl⟩ : ∃ d0, d = d0 + 1 := ⟨d - 1, by omega⟩
  have hd : 0 ≤ d := by omega
  refine E_in (f := (fun r : Sg => ((none, (SHF, r)) : Out))) rfl (Nat.le_of_ble_eq_true rfl) ?_
  unfold x_copyInts_c23
  change Lt X d none k_145 _ 0 [some (.ref 23), some (.ref 70)] [] g _
  refine L_s (pc' := 1) rfl rfl ?_
  refine L_ic (pc' := 2) rfl q1_0 rfl ?_
  refine L_s (pc' := 3) rfl rfl ?_
  refine L_ic (pc' := 4) rfl q1_0 rfl ?_
  refine L_s (pc' := 5) rfl rfl ?_
  refine L_s (pc' := 6) (st' := [.int 8, .int 0, .ref 70, .int 0, .ref 23]) rfl rfl ?_
  refine L_s (pc' := 7) rfl rfl ?_
  refine L_s (pc' := 8) (st' := [.int 8, .int 8, .int 0, .ref 70, .int 0, .ref 23]) rfl rfl ?_
  refine L_s (pc' := 11) rfl rfl ?_
  refine L_e (b := 8) (by decide) ?_
  refine L_cp (pc' := 14) rfl sh_23 sh_70 (by decide) (by decide) (by decide) (by decide) rfl rfl ?_
  refine L_let fun g1 _ => ?_
  exact L_ret rfl rfl rfl
def x_copyInts_c24  (g : Sg) : Option (Sg) :=
  lt1 (cp2 g 24 0 71 0 (Int32.toNatClampNeg 120)) (fun g1 => (some g1))
theorem e_x_copyInts_c24 {X : Xx} {d : Nat} (hd : 1 ≤ d)  (g : Sg) : ∀ r, x_copyInts_c24  g = some r → EvM zft mtl X d 145 [.ref 24, .ref 71] (SHF, g) ((fun r : Sg => ((none, (SHF, r)) : Out)) r) := by
  obtain ⟨d, rfl⟩ : ∃ d0, d = d0 + 1 := ⟨d - 1, by omega⟩
  have hd : 0 ≤ d := by omega
  refine E_in (f := (fun r : Sg => ((none, (SHF, r)) : Out))) rfl (Nat.le_of_ble_eq_true rfl) ?_
  unfold x_copyInts_c24
  change Lt X d none k_145 _ 0 [some (.ref 24), some (.ref 71)] [] g _
  refine L_s (pc' := 1) rfl rfl ?_
  refine L_ic (pc' := 2) rfl q1_0 rfl ?_
  refine L_s (pc' := 3) rfl rfl ?_
  refine L_ic (pc' := 4) rfl q1_0 rfl ?_
  refine L_s (pc' := 5) rfl rfl ?_
  refine L_s (pc' := 6) (st' := [.int 120, .int 0, .ref 71, .int 0, .ref 24]) rfl rfl ?_
  refine L_s (pc' := 7) rfl rfl ?_
  refine L_s (pc' := 8) (st' := [.int 120, .int 120, .int 0, .ref 71, .int 0, .ref 24]) rfl rfl ?_
  refine L_s (pc' := 11) rfl rfl ?_
  refine L_e (b := 120) (by decide) ?_
  refine L_cp (pc' := 14) rfl sh_24 sh_71 (by decide) (by decide) (by decide) (by decide) rfl rfl ?_
  refine L_let fun g1 _ => ?_
  exact L_ret rfl rfl rfl
def x_copyInts_c25  (g : Sg) : Option (Sg) :=
  lt1 (cp2 g 25 0 72 0 (Int32.toNatClampNeg 120)) (fun g1 => (some g1))
theorem e_x_copyInts_c25 {X : Xx} {d : Nat} (hd : 1 ≤ d)  (g : Sg) : ∀ r, x_copyInts_c25  g = some r → EvM zft mtl X d 145 [.ref 25, .ref 72] (SHF, g) ((fun r : Sg => ((none, (SHF, r)) : Out)) r) := by
  obtain ⟨d, rfl⟩ : ∃ d0, d = d0 + 1 := ⟨d - 1, by omega⟩
  have hd : 0 ≤ d := by omega
  refine E_in (f := (fun r : Sg => ((none, (SHF, r)) : Out))) rfl (Nat.le_of_ble_eq_true rfl) ?_
  unfold x_copyInts_c25
  change Lt X d none k_145 _ 0 [some (.ref 25), some (.ref 72)] [] g _
  refine L_s (pc' := 1) rfl rfl ?_
  refine L_ic (pc' := 2) rfl q1_0 rfl ?_
  refine L_s (pc' := 3) rfl rfl ?_
  refine L_ic (pc' := 4) rfl q1_0 rfl ?_
  refine L_s (pc' := 5) rfl rfl ?_
  refine L_s (pc' := 6) (st' := [.int 120, .int 0, .ref 72, .int 0, .ref 25]) rfl rfl ?_
  refine L_s (pc' := 7) rfl rfl ?_
  refine L_s (pc' := 8) (st' := [.int 120, .int 120, .int 0, .ref 72, .int 0, .ref 25]) rfl rfl ?_
  refine L_s (pc' := 11) rfl rfl ?_
  refine L_e (b := 120) (by decide) ?_
  refine L_cp (pc' := 14) rfl sh_25 sh_72 (by decide) (by decide) (by decide) (by decide) rfl rfl ?_
  refine L_let fun g1 _ => ?_
  exact L_ret rfl rfl rfl
def x_copyInts_c26  (g : Sg) : Option (Sg) :=
  lt1 (cp2 g 26 0 73 0 (Int32.toNatClampNeg 120)) (fun g1 => (some g1))
theorem e_x_copyInts_c26 {X : Xx} {d : Nat} (hd : 1 ≤ d)  (g : Sg) : ∀ r, x_copyInts_c26  g = some r → EvM zft mtl X d 145 [.ref 26, .ref 73] (SHF, g) ((fun r : Sg => ((none, (SHF, r)) : Out)) r) := by
  obtain ⟨d, rfl⟩ : ∃ d0, d = d0 + 1 := ⟨d - 1, by omega⟩
  have hd : 0 ≤ d := by omega
  refine E_in (f := (fun r : Sg => ((none, (SHF, r)) : Out))) rfl (Nat.le_of_ble_eq_true rfl) ?_
  unfold x_copyInts_c26
  change Lt X d none k_145 _ 0 [some (.ref 26), some (.ref 73)] [] g _
  refine L_s (pc' := 1) rfl rfl ?_
  refine L_ic (pc' := 2) rfl q1_0 rfl ?_
  refine L_s (pc' := 3) rfl rfl ?_
  refine L_ic (pc' := 4) rfl q1_0 rfl ?_
  refine L_s (pc' := 5) rfl rfl ?_
  refine L_s (pc' := 6) (st' := [.int 120, .int 0, .ref 73, .int 0, .ref 26]) rfl rfl ?_
  refine L_s (pc' := 7) rfl rfl ?_
  refine L_s (pc' := 8) (st' := [.int 120, .int 120, .int 0, .ref 73, .int 0, .ref 26]) rfl rfl ?_
  refine L_s (pc' := 11) rfl rfl ?_
  refine L_e (b := 120) (by decide) ?_
  refine L_cp (pc' := 14) rfl sh_26 sh_73 (by decide) (by decide) (by decide) (by decide) rfl rfl ?_
  refine L_let fun g1 _ => ?_
  exact L_ret rfl rfl rfl
def x_copyInts_c27  (g : Sg) : Option (Sg) :=
  lt1 (cp2 g 27 0 74 0 (Int32.toNatClampNeg 120)) (fun g1 => (some g1))
theorem e_x_copyInts_c27 {X : Xx} {d : Nat} (hd : 1 ≤ d)  (g : Sg) : ∀ r, x_copyInts_c27  g = some r → EvM zft mtl X d 145 [.ref 27, .ref 74] (SHF, g) ((fun r : Sg => ((none, (SHF, r)) : Out)) r) := by
  obtain ⟨d, rfl⟩ : ∃ d0, d = d0 + 1 := ⟨d - 1, by omega⟩
  have hd : 0 ≤ d := by omega
  refine E_in (f := (fun r : Sg => ((none, (SHF, r)) : Out))) rfl (Nat.le_of_ble_eq_true rfl) ?_
  unfold x_copyInts_c27
  change Lt X d none k_145 _ 0 [some (.ref 27), some (.ref 74)] [] g _
  refine L_s (pc' := 1) rfl rfl ?_
  refine L_ic (pc' := 2) rfl q1_0 rfl ?_
  refine L_s (pc' := 3) rfl rfl ?_
  refine L_ic (pc' := 4) rfl q1_0 rfl ?_
  refine L_s (pc' := 5) rfl rfl ?_
  refine L_s (pc' := 6) (st' := [.int 120, .int 0, .ref 74, .int 0, .ref 27]) rfl rfl ?_
  refine L_s (pc' := 7) rfl rfl ?_
  refine L_s (pc' := 8) (st' := [.int 120, .int 120, .int 0, .ref 74, .int 0, .ref 27]) rfl rfl ?_
  refine L_s (pc' := 11) rfl rfl ?_
  refine L_e (b := 120) (by decide) ?_
  refine L_cp (pc' := 14) rfl sh_27 sh_74 (by decide) (by decide) (by decide) (by decide) rfl rfl ?_
  refine L_let fun g1 _ => ?_
  exact L_ret rfl rfl rfl
def x_copyInts_c28  (g : Sg) : Option (Sg) :=
  lt1 (cp2 g 28 0 75 0 (Int32.toNatClampNeg 120)) (fun g1 => (some g1))
theorem e_x_copyInts_c28 {X : Xx} {d : Nat} (hd : 1 ≤ d)  (g : Sg) : ∀ r, x_copyInts_c28  g = some r → EvM zft mtl X d 145 [.ref 28, .ref 75] (SHF, g) ((fun r : Sg => ((none, (SHF, r)) : Out)) r) := by
  obtain ⟨d, rfl⟩ : ∃ d0, d = d0 + 1 := ⟨d - 1, by omega⟩
  have hd : 0 ≤ d := by omega
  refine E_in (f := (fun r : Sg => ((none, (SHF, r)) : Out))) rfl (Nat.le_of_ble_eq_true rfl) ?_
  unfold x_copyInts_c28
  change Lt X d none k_145 _ 0 [some (.ref 28), some (.ref 75)] [] g _
  refine L_s (pc' := 1) rfl rfl ?_
  refine L_ic (pc' := 2) rfl q1_0 rfl ?_
  refine L_s (pc' := 3) rfl rfl ?_
  refine L_ic (pc' := 4) rfl q1_0 rfl ?_
  refine L_s (pc' := 5) rfl rfl ?_
  refine L_s (pc' := 6) (st' := [.int 120, .int 0, .ref 75, .int 0, .ref 28]) rfl rfl ?_
  refine L_s (pc' := 7) rfl rfl ?_
  refine L_s (pc' := 8) (st' := [.int 120, .int 120, .int 0, .ref 75, .int 0, .ref 28]) rfl rfl ?_
  refine L_s (pc' := 11) rfl rfl ?_
  refine L_e (b := 120) (by decide) ?_
  refine L_cp (pc' := 14) rfl sh_28 sh_75 (by decide) (by decide) (by decide) (by decide) rfl rfl ?_
  refine L_let fun g1 _ => ?_
  exact L_ret rfl rfl rfl
def x_copyInts_c29  (g : Sg) : Option (Sg) :=
  lt1 (cp2 g 29 0 76 0 (Int32.toNatClampNeg 120)) (fun g1 => (some g1))
theorem e_x_copyInts_c29 {X : Xx} {d : Nat} (hd : 1 ≤ d)  (g : Sg) : ∀ r, x_copyInts_c29  g = some r → EvM zft mtl X d 145 [.ref 29, .ref 76] (SHF, g) ((fun r : Sg => ((none, (SHF, r)) : Out)) r) := by
  obtain ⟨d, rfl⟩ : ∃ d0, d = d0 + 1 := ⟨d - 1, by omega⟩
  have hd : 0 ≤ d := by omega
  refine E_in (f := (fun r : Sg => ((none, (SHF, r)) : Out))) rfl (Nat.le_of_ble_eq_true rfl) ?_
  unfold x_copyInts_c29
  change Lt X d none k_145 _ 0 [some (.ref 29), some (.ref 76)] [] g _
  refine L_s (pc' := 1) rfl rfl ?_
  refine L_ic (pc' := 2) rfl q1_0 rfl ?_
  refine L_s (pc' := 3) rfl rfl ?_
  refine L_ic (pc' := 4) rfl q1_0 rfl ?_
  refine L_s (pc' := 5) rfl rfl ?_
  refine L_s (pc' := 6) (st' := [.int 120, .int 0, .ref 76, .int 0, .ref 29]) rfl rfl ?_
  refine L_s (pc' := 7) rfl rfl ?_
  refine L_s (pc' := 8) (st' := [.int 120, .int 120, .int 0, .ref 76, .int 0, .ref 29]) rfl rfl ?_
  refine L_s (pc' := 11) rfl rfl ?_
  refine L_e (b := 120) (by decide) ?_
  refine L_cp (pc' := 14) rfl sh_29 sh_76 (by decide) (by decide) (by decide) (by decide) rfl rfl ?_
  refine L_let fun g1 _ => ?_
  exact L_ret rfl rfl rfl
def x_copyBytes  (g : Sg) : Option (Sg) :=
  lt1 (cp2 g 30 0 77 0 (Int32.toNatClampNeg 2400)) (fun g1 => (some g1))
theorem e_x_copyBytes {X : Xx} {d : Nat} (hd : 1 ≤ d)  (g : Sg) : ∀ r, x_copyBytes  g = some r → EvM zft mtl X d 146 [.ref 30, .ref 77] (SHF, g) ((fun r : Sg => ((none, (SHF, r)) : Out)) r) := by
  obtain ⟨d, rfl⟩ : ∃ d0, d = d0 + 1 := ⟨d - 1, by omega⟩
  have hd : 0 ≤ d := by omega
  refine E_in (f := (fun r : Sg => ((none, (SHF, r)) : Out))) rfl (Nat.le_of_ble_eq_true rfl) ?_
  unfold x_copyBytes
  change Lt X d none k_146 _ 0 [some (.ref 30), some (.ref 77)] [] g _
  refine L_s (pc' := 1) rfl rfl ?_
  refine L_ic (pc' := 2) rfl q1_0 rfl ?_
  refine L_s (pc' := 3) rfl rfl ?_
  refine L_ic (pc' := 4) rfl q1_0 rfl ?_
  refine L_s (pc' := 5) rfl rfl ?_
  refine L_s (pc' := 6) (st' := [.int 2400, .int 0, .ref 77, .int 0, .ref 30]) rfl rfl ?_
  refine L_s (pc' := 7) rfl rfl ?_
  refine L_s (pc' := 8) (st' := [.int 2400, .int 2400, .int 0, .ref 77, .int 0, .ref 30]) rfl rfl ?_
  refine L_s (pc' := 11) rfl rfl ?_
  refine L_e (b := 2400) (by decide) ?_
  refine L_cp (pc' := 14) rfl sh_30 sh_77 (by decide) (by decide) (by decide) (by decide) rfl rfl ?_
  refine L_let fun g1 _ => ?_
  exact L_ret rfl rfl rfl
def rights_copyFrom  (g : Sg) : Option (Sg) :=
  Option.bind (x_copyInts_c23 g) (fun g1 => lt1 (up2 g1 69 1 (g1 22 1)) (fun g2 => Option.bind (x_copyInts_c24 g2) (fun g3 => Option.bind (x_copyInts_c25 g3) (fun g4 => Option.bind (x_copyInts_c26 g4) (fun g5 => Option.bind (x_copyInts_c27 g5) (fun g6 => Option.bind (x_copyInts_c28 g6) (fun g7 => Option.bind (x_copyInts_c29 g7) (fun g8 => lt1 (up2 g8 69 8 (g8 22 8)) (fun g9 => Option.bind (x_copyBytes g9) (fun g10 => (some g10)))))))))))
theorem e_rights_copyFrom {X : Xx} {d : Nat} (hd : 2 ≤ d)  (g : Sg) : ∀ r, rights_copyFrom  g = some r → EvM zft mtl X d 77 [.ref 69, .ref 22] (SHF, g) ((fun r : Sg => ((none, (SHF, r)) : Out)) r) := by
  obtain ⟨d, rfl⟩ : ∃ d0, d = d0 + 1 := ⟨d - 1, by omega⟩
  have hd : 1 ≤ d := by omega
  refine E_in (f := (fun r : Sg => ((none, (SHF, r)) : Out))) rfl (Nat.le_of_ble_eq_true rfl) ?_
  unfold rights_copyFrom
  change Lt X d none k_77 _ 0 [some (.ref 69), some (.ref 22)] [] g _
  refine L_s (pc' := 1) rfl rfl ?_
  refine L_gf (pc' := 4) rfl fr_22_0 rfl ?_
  refine L_s (pc' := 5) rfl rfl ?_
  refine L_gf (pc' := 8) rfl fr_69_0 rfl ?_
  refine L_cv (pc' := 11) (as := [.ref 23, .ref 70]) (rest := []) rfl rfl (e_x_copyInts_c23 (by omega) _) rfl fun g1 => ?_
  refine L_s (pc' := 12) rfl rfl ?_
  refine L_s (pc' := 13) rfl rfl ?_
  refine L_gf (pc' := 16) rfl fi_22_1 rfl ?_
  refine L_pf (pc' := 19) rfl sh_69 (by decide) rfl rfl ?_
  refine L_let fun g2 _ => ?_
  refine L_s (pc' := 20) rfl rfl ?_
  refine L_gf (pc' := 23) rfl fr_22_2 rfl ?_
  refine L_s (pc' := 24) rfl rfl ?_
  refine L_gf (pc' := 27) rfl fr_69_2 rfl ?_
  refine L_cv (pc' := 30) (as := [.ref 24, .ref 71]) (rest := []) rfl rfl (e_x_copyInts_c24 (by omega) _) rfl fun g3 => ?_
  refine L_s (pc' := 31) rfl rfl ?_
  refine L_gf (pc' := 34) rfl fr_22_3 rfl ?_
  refine L_s (pc' := 35) rfl rfl ?_
  refine L_gf (pc' := 38) rfl fr_69_3 rfl ?_
  refine L_cv (pc' := 41) (as := [.ref 25, .ref 72]) (rest := []) rfl rfl (e_x_copyInts_c25 (by omega) _) rfl fun g4 => ?_
  refine L_s (pc' := 42) rfl rfl ?_
  refine L_gf (pc' := 45) rfl fr_22_4 rfl ?_
  refine L_s (pc' := 46) rfl rfl ?_
  refine L_gf (pc' := 49) rfl fr_69_4 rfl ?_
  refine L_cv (pc' := 52) (as := [.ref 26, .ref 73]) (rest := []) rfl rfl (e_x_copyInts_c26 (by omega) _) rfl fun g5 => ?_
  refine L_s (pc' := 53) rfl rfl ?_
  refine L_gf (pc' := 56) rfl fr_22_5 rfl ?_
  refine L_s (pc' := 57) rfl rfl ?_
  refine L_gf (pc' := 60) rfl fr_69_5 rfl ?_
  refine L_cv (pc' := 63) (as := [.ref 27, .ref 74]) (rest := []) rfl rfl (e_x_copyInts_c27 (by omega) _) rfl fun g6 => ?_
  refine L_s (pc' := 64) rfl rfl ?_
  refine L_gf (pc' := 67) rfl fr_22_6 rfl ?_
  refine L_s (pc' := 68) rfl rfl ?_
  refine L_gf (pc' := 71) rfl fr_69_6 rfl ?_
  refine L_cv (pc' := 74) (as := [.ref 28, .ref 75]) (rest := []) rfl rfl (e_x_copyInts_c28 (by omega) _) rfl fun g7 => ?_
  refine L_s (pc' := 75) rfl rfl ?_
  refine L_gf (pc' := 78) rfl fr_22_7 rfl ?_
  refine L_s (pc' := 79) rfl rfl ?_
  refine L_gf (pc' := 82) rfl fr_69_7 rfl ?_
  refine L_cv (pc' := 85) (as := [.ref 29, .ref 76]) (rest := []) rfl rfl (e_x_copyInts_c29 (by omega) _) rfl fun g8 => ?_
  refine L_s (pc' := 86) rfl rfl ?_
  refine L_s (pc' := 87) rfl rfl ?_
  refine L_gf (pc' := 90) rfl fi_22_8 rfl ?_
  refine L_pf (pc' := 93) rfl sh_69 (by decide) rfl rfl ?_
  refine L_let fun g9 _ => ?_
  refine L_s (pc' := 94) rfl rfl ?_
  refine L_gf (pc' := 97) rfl fr_22_9 rfl ?_
  refine L_s (pc' := 98) rfl rfl ?_
  refine L_gf (pc' := 101) rfl fr_69_9 rfl ?_
  refine L_cv (pc' := 104) (as := [.ref 30, .ref 77]) (rest := []) rfl rfl (e_x_copyBytes (by omega) _) rfl fun g10 => ?_
  exact L_ret rfl rfl rfl
def x_copyBytes_c1  (g : Sg) : Option (Sg) :=
  lt1 (cp2 g 32 0 79 0 (Int32.toNatClampNeg 500)) (fun g1 => (some g1))
theorem e_x_copyBytes_c1 {X : Xx} {d : Nat} (hd : 1 ≤ d)  (g : Sg) : ∀ r, x_copyBytes_c1  g = some r → EvM zft mtl X d 146 [.ref 32, .ref 79] (SHF, g) ((fun r : Sg => ((none, (SHF, r)) : Out)) r) := by
  obtain ⟨d, rfl⟩ : ∃ d0, d = d0 + 1 := ⟨d - 1, by omega⟩
  have hd : 0 ≤ d := by omega
  refine E_in (f := (fun r : Sg => ((none, (SHF, r)) : Out))) rfl (Nat.le_of_ble_eq_true rfl) ?_
  unfold x_copyBytes_c1
  change Lt X d none k_146 _ 0 [some (.ref 32), some (.ref 79)] [] g _
  refine L_s (pc' := 1) rfl rfl ?_
  refine L_ic (pc' := 2) rfl q1_0 rfl ?_
  refine L_s (pc' := 3) rfl rfl ?_
  refine L_ic (pc' := 4) rfl q1_0 rfl ?_
  refine L_s (pc' := 5) rfl rfl ?_
  refine L_s (pc' := 6) (st' := [.int 500, .int 0, .ref 79, .int 0, .ref 32]) rfl rfl ?_
  refine L_s (pc' := 7) rfl rfl ?_
  refine L_s (pc' := 8) (st' := [.int 500, .int 500, .int 0, .ref 79, .int 0, .ref 32]) rfl rfl ?_
  refine L_s (pc' := 11) rfl rfl ?_
  refine L_e (b := 500) (by decide) ?_
  refine L_cp (pc' := 14) rfl sh_32 sh_79 (by decide) (by decide) (by decide) (by decide) rfl rfl ?_
  refine L_let fun g1 _ => ?_
  exact L_ret rfl rfl rfl
def x_copyInts_c30  (g : Sg) : Option (Sg) :=
  lt1 (cp2 g 34 0 81 0 (Int32.toNatClampNeg 16)) (fun g1 => (some g1))
theorem e_x_copyInts_c30 {X : Xx} {d : Nat} (hd : 1 ≤ d)  (g : Sg) : ∀ r, x_copyInts_c30  g = some r → EvM zft mtl X d 145 [.ref 34, .ref 81] (SHF, g) ((fun r : Sg => ((none, (SHF, r)) : Out)) r) := by
  obtain ⟨d, rfl⟩ : ∃ d0, d = d0 + 1 := ⟨d - 1, by omega⟩
  have hd : 0 ≤ d := by omega
  refine E_in (f := (fun r : Sg => ((none, (SHF, r)) : Out))) rfl (Nat.le_of_ble_eq_true rfl) ?_
  unfold x_copyInts_c30
  change Lt X d none k_145 _ 0 [some (.ref 34), some (.ref 81)] [] g _
  refine L_s (pc' := 1) rfl rfl ?_
  refine L_ic (pc' := 2) rfl q1_0 rfl ?_
  refine L_s (pc' := 3) rfl rfl ?_
  refine L_ic (pc' := 4) rfl q1_0 rfl ?_
  refine L_s (pc' := 5) rfl rfl ?_
  refine L_s (pc' := 6) (st' := [.int 16, .int 0, .ref 81, .int 0, .ref 34]) rfl rfl ?_
  refine L_s (pc' := 7) rfl rfl ?_
  refine L_s (pc' := 8) (st' := [.int 16, .int 16, .int 0, .ref 81, .int 0, .ref 34]) rfl rfl ?_
  refine L_s (pc' := 11) rfl rfl ?_
  refine L_e (b := 16) (by decide) ?_
  refine L_cp (pc' := 14) rfl sh_34 sh_81 (by decide) (by decide) (by decide) (by decide) rfl rfl ?_
  refine L_let fun g1 _ => ?_
  exact L_ret rfl rfl rfl
def x_copyInts_c31  (g : Sg) : Option (Sg) :=
  lt1 (cp2 g 35 0 82 0 (Int32.toNatClampNeg 16)) (fun g1 => (some g1))
theorem e_x_copyInts_c31 {X : Xx} {d : Nat} (hd : 1 ≤ d)  (g : Sg) : ∀ r, x_copyInts_c31  g = some r → EvM zft mtl X d 145 [.ref 35, .ref 82] (SHF, g) ((fun r : Sg => ((none, (SHF, r)) : Out)) r) := by
  obtain ⟨d, rfl⟩ : ∃ d0, d = d0 + 1 := ⟨d - 1, by omega⟩
  have hd : 0 ≤ d := by omega
  refine E_in (f := (fun r : Sg => ((none, (SHF, r)) : Out))) rfl (Nat.le_of_ble_eq_true rfl) ?_
  unfold x_copyInts_c31
  change Lt X d none k_145 _ 0 [some (.ref 35), some (.ref 82)] [] g _
  refine L_s (pc' := 1) rfl rfl ?_
  refine L_ic (pc' := 2) rfl q1_0 rfl ?_
  refine L_s (pc' := 3) rfl rfl ?_
  refine L_ic (pc' := 4) rfl q1_0 rfl ?_
  refine L_s (pc' := 5) rfl rfl ?_
  refine L_s (pc' := 6) (st' := [.int 16, .int 0, .ref 82, .int 0, .ref 35]) rfl rfl ?_
  refine L_s (pc' := 7) rfl rfl ?_
  refine L_s (pc' := 8) (st' := [.int 16, .int 16, .int 0, .ref 82, .int 0, .ref 35]) rfl rfl ?_
  refine L_s (pc' := 11) rfl rfl ?_
  refine L_e (b := 16) (by decide) ?_
  refine L_cp (pc' := 14) rfl sh_35 sh_82 (by decide) (by decide) (by decide) (by decide) rfl rfl ?_
  refine L_let fun g1 _ => ?_
  exact L_ret rfl rfl rfl
def x_copyInts_c32  (g : Sg) : Option (Sg) :=
  lt1 (cp2 g 36 0 83 0 (Int32.toNatClampNeg 16)) (fun g1 => (some g1))
theorem e_x_copyInts_c32 {X : Xx} {d : Nat} (hd : 1 ≤ d)  (g : Sg) : ∀ r, x_copyInts_c32  g = some r → EvM zft mtl X d 145 [.ref 36, .ref 83] (SHF, g) ((fun r : Sg => ((none, (SHF, r)) : Out)) r) := by
  obtain ⟨d, rfl⟩ : ∃ d0, d = d0 + 1 := ⟨d - 1, by omega⟩
  have hd : 0 ≤ d := by omega
  refine E_in (f := (fun r : Sg => ((none, (SHF, r)) : Out))) rfl (Nat.le_of_ble_eq_true rfl) ?_
  unfold x_copyInts_c32
  change Lt X d none k_145 _ 0 [some (.ref 36), some (.ref 83)] [] g _
  refine L_s (pc' := 1) rfl rfl ?_
  refine L_ic (pc' := 2) rfl q1_0 rfl ?_
  refine L_s (pc' := 3) rfl rfl ?_
  refine L_ic (pc' := 4) rfl q1_0 rfl ?_
  refine L_s (pc' := 5) rfl rfl ?_
  refine L_s (pc' := 6) (st' := [.int 16, .int 0, .ref 83, .int 0, .ref 36]) rfl rfl ?_
  refine L_s (pc' := 7) rfl rfl ?_
  refine L_s (pc' := 8) (st' := [.int 16, .int 16, .int 0, .ref 83, .int 0, .ref 36]) rfl rfl ?_
  refine L_s (pc' := 11) rfl rfl ?_
  refine L_e (b := 16) (by decide) ?_
  refine L_cp (pc' := 14) rfl sh_36 sh_83 (by decide) (by decide) (by decide) (by decide) rfl rfl ?_
  refine L_let fun g1 _ => ?_
  exact L_ret rfl rfl rfl
def x_copyFlags_c2  (g : Sg) : Option (Sg) :=
  lt1 (cp2 g 37 0 84 0 (Int32.toNatClampNeg 64)) (fun g1 => (some g1))
theorem e_x_copyFlags_c2 {X : Xx} {d : Nat} (hd : 1 ≤ d)  (g : Sg) : ∀ r, x_copyFlags_c2  g = some r → EvM zft mtl X d 147 [.ref 37, .ref 84] (SHF, g) ((fun r : Sg => ((none, (SHF, r)) : Out)) r) := by
  obtain ⟨d, rfl⟩ : ∃ d0, d = d0 + 1 := ⟨d - 1, by omega⟩
  have hd : 0 ≤ d := by omega
  refine E_in (f := (fun r : Sg => ((none, (SHF, r)) : Out))) rfl (Nat.le_of_ble_eq_true rfl) ?_
  unfold x_copyFlags_c2
  change Lt X d none k_147 _ 0 [some (.ref 37), some (.ref 84)] [] g _
  refine L_s (pc' := 1) rfl rfl ?_
  refine L_ic (pc' := 2) rfl q1_0 rfl ?_
  refine L_s (pc' := 3) rfl rfl ?_
  refine L_ic (pc' := 4) rfl q1_0 rfl ?_
  refine L_s (pc' := 5) rfl rfl ?_
  refine L_s (pc' := 6) (st' := [.int 64, .int 0, .ref 84, .int 0, .ref 37]) rfl rfl ?_
  refine L_s (pc' := 7) rfl rfl ?_
  refine L_s (pc' := 8) (st' := [.int 64, .int 64, .int 0, .ref 84, .int 0, .ref 37]) rfl rfl ?_
  refine L_s (pc' := 11) rfl rfl ?_
  refine L_e (b := 64) (by decide) ?_
  refine L_cp (pc' := 14) rfl sh_37 sh_84 (by decide) (by decide) (by decide) (by decide) rfl rfl ?_
  refine L_let fun g1 _ => ?_
  exact L_ret rfl rfl rfl
def x_copyInts_c33  (g : Sg) : Option (Sg) :=
  lt1 (cp2 g 38 0 85 0 (Int32.toNatClampNeg 64)) (fun g1 => (some g1))
theorem e_x_copyInts_c33 {X : Xx} {d : Nat} (hd : 1 ≤ d)  (g : Sg) : ∀ r, x_copyInts_c33  g = some r → EvM zft mtl X d 145 [.ref 38, .ref 85] (SHF, g) ((fun r : Sg => ((none, (SHF, r)) : Out)) r) := by
  obtain ⟨d, rfl⟩ : ∃ d0, d = d0 + 1 := ⟨d - 1, by omega⟩
  have hd : 0 ≤ d := by omega
  refine E_in (f := (fun r : Sg => ((none, (SHF, r)) : Out))) rfl (Nat.le_of_ble_eq_true rfl) ?_
  unfold x_copyInts_c33
  change Lt X d none k_145 _ 0 [some (.ref 38), some (.ref 85)] [] g _
  refine L_s (pc' := 1) rfl rfl ?_
  refine L_ic (pc' := 2) rfl q1_0 rfl ?_
  refine L_s (pc' := 3) rfl rfl ?_
  refine L_ic (pc' := 4) rfl q1_0 rfl ?_
  refine L_s (pc' := 5) rfl rfl ?_
  refine L_s (pc' := 6) (st' := [.int 64, .int 0, .ref 85, .int 0, .ref 38]) rfl rfl ?_
  refine L_s (pc' := 7) rfl rfl ?_
  refine L_s (pc' := 8) (st' := [.int 64, .int 64, .int 0, .ref 85, .int 0, .ref 38]) rfl rfl ?_
  refine L_s (pc' := 11) rfl rfl ?_
  refine L_e (b := 64) (by decide) ?_
  refine L_cp (pc' := 14) rfl sh_38 sh_85 (by decide) (by decide) (by decide) (by decide) rfl rfl ?_
  refine L_let fun g1 _ => ?_
  exact L_ret rfl rfl rfl
def x_copyInts_c34  (g : Sg) : Option (Sg) :=
  lt1 (cp2 g 39 0 86 0 (Int32.toNatClampNeg 64)) (fun g1 => (some g1))
theorem e_x_copyInts_c34 {X : Xx} {d : Nat} (hd : 1 ≤ d)  (g : Sg) : ∀ r, x_copyInts_c34  g = some r → EvM zft mtl X d 145 [.ref 39, .ref 86] (SHF, g) ((fun r : Sg => ((none, (SHF, r)) : Out)) r) := by
  obtain ⟨d, rfl⟩ : ∃ d0, d = d0 + 1 := ⟨d - 1, by omega⟩
  have hd : 0 ≤ d := by omega
  refine E_in (f := (fun r : Sg => ((none, (SHF, r)) : Out))) rfl (Nat.le_of_ble_eq_true rfl) ?_
  unfold x_copyInts_c34
  change Lt X d none k_145 _ 0 [some (.ref 39), some (.ref 86)] [] g _
  refine L_s (pc' := 1) rfl rfl ?_
  refine L_ic (pc' := 2) rfl q1_0 rfl ?_
  refine L_s (pc' := 3) rfl rfl ?_
  refine L_ic (pc' := 4) rfl q1_0 rfl ?_
  refine L_s (pc' := 5) rfl rfl ?_
  refine L_s (pc' := 6) (st' := [.int 64, .int 0, .ref 86, .int 0, .ref 39]) rfl rfl ?_
  refine L_s (pc' := 7) rfl rfl ?_
  refine L_s (pc' := 8) (st' := [.int 64, .int 64, .int 0, .ref 86, .int 0, .ref 39]) rfl rfl ?_
  refine L_s (pc' := 11) rfl rfl ?_
  refine L_e (b := 64) (by decide) ?_
  refine L_cp (pc' := 14) rfl sh_39 sh_86 (by decide) (by decide) (by decide) (by decide) rfl rfl ?_
  refine L_let fun g1 _ => ?_
  exact L_ret rfl rfl rfl
def x_copyInts_c35  (g : Sg) : Option (Sg) :=
  lt1 (cp2 g 40 0 87 0 (Int32.toNatClampNeg 64)) (fun g1 => (some g1))
theorem e_x_copyInts_c35 {X : Xx} {d : Nat} (hd : 1 ≤ d)  (g : Sg) : ∀ r, x_copyInts_c35  g = some r → EvM zft mtl X d 145 [.ref 40, .ref 87] (SHF, g) ((fun r : Sg => ((none, (SHF, r)) : Out)) r) := by
  obtain ⟨d, rfl⟩ : ∃ d0, d = d0 + 1 := ⟨d - 1, by omega⟩
  have hd : 0 ≤ d := by omega
  refine E_in (f := (fun r : Sg => ((none, (SHF, r)) : Out))) rfl (Nat.le_of_ble_eq_true rfl) ?_
  unfold x_copyInts_c35
  change Lt X d none k_145 _ 0 [some (.ref 40), some (.ref 87)] [] g _
  refine L_s (pc' := 1) rfl rfl ?_
  refine L_ic (pc' := 2) rfl q1_0 rfl ?_
  refine L_s (pc' := 3) rfl rfl ?_
  refine L_ic (pc' := 4) rfl q1_0 rfl ?_
  refine L_s (pc' := 5) rfl rfl ?_
  refine L_s (pc' := 6) (st' := [.int 64, .int 0, .ref 87, .int 0, .ref 40]) rfl rfl ?_
  refine L_s (pc' := 7) rfl rfl ?_
  refine L_s (pc' := 8) (st' := [.int 64, .int 64, .int 0, .ref 87, .int 0, .ref 40]) rfl rfl ?_
  refine L_s (pc' := 11) rfl rfl ?_
  refine L_e (b := 64) (by decide) ?_
  refine L_cp (pc' := 14) rfl sh_40 sh_87 (by decide) (by decide) (by decide) (by decide) rfl rfl ?_
  refine L_let fun g1 _ => ?_
  exact L_ret rfl rfl rfl
def lines_copyFrom_c1  (g : Sg) : Option (Sg) :=
  lt1 (up2 g 80 0 (g 33 0)) (fun g1 => Option.bind (x_copyInts_c30 g1) (fun g2 => Option.bind (x_copyInts_c31 g2) (fun g3 => Option.bind (x_copyInts_c32 g3) (fun g4 => Option.bind (x_copyFlags_c2 g4) (fun g5 => Option.bind (x_copyInts_c33 g5) (fun g6 => Option.bind (x_copyInts_c34 g6) (fun g7 => Option.bind (x_copyInts_c35 g7) (fun g8 => (some g8)))))))))
theorem e_lines_copyFrom_c1 {X : Xx} {d : Nat} (hd : 2 ≤ d)  (g : Sg) : ∀ r, lines_copyFrom_c1  g = some r → EvM zft mtl X d 20 [.ref 80, .ref 33] (SHF, g) ((fun r : Sg => ((none, (SHF, r)) : Out)) r) := by
  obtain ⟨d, rfl⟩ : ∃ d0, d = d0 + 1 := ⟨d - 1, by omega⟩
  have hd : 1 ≤ d := by omega
  refine E_in (f := (fun r : Sg => ((none, (SHF, r)) : Out))) rfl (Nat.le_of_ble_eq_true rfl) ?_
  unfold lines_copyFrom_c1
  change Lt X d none k_20 _ 0 [some (.ref 80), some (.ref 33)] [] g _
  refine L_s (pc' := 1) rfl rfl ?_
  refine L_s (pc' := 2) rfl rfl ?_
  refine L_gf (pc' := 5) rfl fi_33_0 rfl ?_
  refine L_pf (pc' := 8) rfl sh_80 (by decide) rfl rfl ?_
  refine L_let fun g1 _ => ?_
  refine L_s (pc' := 9) rfl rfl ?_
  refine L_gf (pc' := 12) rfl fr_33_1 rfl ?_
  refine L_s (pc' := 13) rfl rfl ?_
  refine L_gf (pc' := 16) rfl fr_80_1 rfl ?_
  refine L_cv (pc' := 19) (as := [.ref 34, .ref 81]) (rest := []) rfl rfl (e_x_copyInts_c30 (by omega) _) rfl fun g2 => ?_
  refine L_s (pc' := 20) rfl rfl ?_
  refine L_gf (pc' := 23) rfl fr_33_2 rfl ?_
  refine L_s (pc' := 24) rfl rfl ?_
  refine L_gf (pc' := 27) rfl fr_80_2 rfl ?_
  refine L_cv (pc' := 30) (as := [.ref 35, .ref 82]) (rest := []) rfl rfl (e_x_copyInts_c31 (by omega) _) rfl fun g3 => ?_
  refine L_s (pc' := 31) rfl rfl ?_
  refine L_gf (pc' := 34) rfl fr_33_3 rfl ?_
  refine L_s (pc' := 35) rfl rfl ?_
  refine L_gf (pc' := 38) rfl fr_80_3 rfl ?_
  refine L_cv (pc' := 41) (as := [.ref 36, .ref 83]) (rest := []) rfl rfl (e_x_copyInts_c32 (by omega) _) rfl fun g4 => ?_
  refine L_s (pc' := 42) rfl rfl ?_
  refine L_gf (pc' := 45) rfl fr_33_4 rfl ?_
  refine L_s (pc' := 46) rfl rfl ?_
  refine L_gf (pc' := 49) rfl fr_80_4 rfl ?_
  refine L_cv (pc' := 52) (as := [.ref 37, .ref 84]) (rest := []) rfl rfl (e_x_copyFlags_c2 (by omega) _) rfl fun g5 => ?_
  refine L_s (pc' := 53) rfl rfl ?_
  refine L_gf (pc' := 56) rfl fr_33_5 rfl ?_
  refine L_s (pc' := 57) rfl rfl ?_
  refine L_gf (pc' := 60) rfl fr_80_5 rfl ?_
  refine L_cv (pc' := 63) (as := [.ref 38, .ref 85]) (rest := []) rfl rfl (e_x_copyInts_c33 (by omega) _) rfl fun g6 => ?_
  refine L_s (pc' := 64) rfl rfl ?_
  refine L_gf (pc' := 67) rfl fr_33_6 rfl ?_
  refine L_s (pc' := 68) rfl rfl ?_
  refine L_gf (pc' := 71) rfl fr_80_6 rfl ?_
  refine L_cv (pc' := 74) (as := [.ref 39, .ref 86]) (rest := []) rfl rfl (e_x_copyInts_c34 (by omega) _) rfl fun g7 => ?_
  refine L_s (pc' := 75) rfl rfl ?_
  refine L_gf (pc' := 78) rfl fr_33_7 rfl ?_
  refine L_s (pc' := 79) rfl rfl ?_
  refine L_gf (pc' := 82) rfl fr_80_7 rfl ?_
  refine L_cv (pc' := 85) (as := [.ref 40, .ref 87]) (rest := []) rfl rfl (e_x_copyInts_c35 (by omega) _) rfl fun g8 => ?_
  exact L_ret rfl rfl rfl
def x_copyFlags_c3  (g : Sg) : Option (Sg) :=
  lt1 (cp2 g 41 0 88 0 (Int32.toNatClampNeg 100)) (fun g1 => (some g1))
theorem e_x_copyFlags_c3 {X : Xx} {d : Nat} (hd : 1 ≤ d)  (g : Sg) : ∀ r, x_copyFlags_c3  g = some r → EvM zft mtl X d 147 [.ref 41, .ref 88] (SHF, g) ((fun r : Sg => ((none, (SHF, r)) : Out)) r) := by
  obtain ⟨d, rfl⟩ : ∃ d0, d = d0 + 1 := ⟨d - 1, by omega⟩
  have hd : 0 ≤ d := by omega
  refine E_in (f := (fun r : Sg => ((none, (SHF, r)) : Out))) rfl (Nat.le_of_ble_eq_true rfl) ?_
  unfold x_copyFlags_c3
  change Lt X d none k_147 _ 0 [some (.ref 41), some (.ref 88)] [] g _
  refine L_s (pc' := 1) rfl rfl ?_
  refine L_ic (pc' := 2) rfl q1_0 rfl ?_
  refine L_s (pc' := 3) rfl rfl ?_
  refine L_ic (pc' := 4) rfl q1_0 rfl ?_
  refine L_s (pc' := 5) rfl rfl ?_
  refine L_s (pc' := 6) (st' := [.int 100, .int 0, .ref 88, .int 0, .ref 41]) rfl rfl ?_
  refine L_s (pc' := 7) rfl rfl ?_
  refine L_s (pc' := 8) (st' := [.int 100, .int 100, .int 0, .ref 88, .int 0, .ref 41]) rfl rfl ?_
  refine L_s (pc' := 11) rfl rfl ?_
  refine L_e (b := 100) (by decide) ?_
  refine L_cp (pc' := 14) rfl sh_41 sh_88 (by decide) (by decide) (by decide) (by decide) rfl rfl ?_
  refine L_let fun g1 _ => ?_
  exact L_ret rfl rfl rfl
def law_copyFrom  (g : Sg) : Option (Sg) :=
  lt1 (up2 g 78 0 (g 31 0)) (fun g1 => Option.bind (x_copyBytes_c1 g1) (fun g2 => lt1 (up2 g2 78 2 (g2 31 2)) (fun g3 => lt1 (up2 g3 78 3 (g3 31 3)) (fun g4 => Option.bind (lines_copyFrom_c1 g4) (fun g5 => Option.bind (x_copyFlags_c3 g5) (fun g6 => (some g6)))))))
theorem e_law_copyFrom {X : Xx} {d : Nat} (hd : 3 ≤ d)  (g : Sg) : ∀ r, law_copyFrom  g = some r → EvM zft mtl X d 18 [.ref 78, .ref 31] (SHF, g) ((fun r : Sg => ((none, (SHF, r)) : Out)) r) := by
  obtain ⟨d, rfl⟩ : ∃ d0, d = d0 + 1 := ⟨d - 1, by omega⟩
  have hd : 2 ≤ d := by omega
  refine E_in (f := (fun r : Sg => ((none, (SHF, r)) : Out))) rfl (Nat.le_of_ble_eq_true rfl) ?_
  unfold law_copyFrom
  change Lt X d none k_18 _ 0 [some (.ref 78), some (.ref 31)] [] g _
  refine L_s (pc' := 1) rfl rfl ?_
  refine L_s (pc' := 2) rfl rfl ?_
  refine L_gf (pc' := 5) rfl fi_31_0 rfl ?_
  refine L_pf (pc' := 8) rfl sh_78 (by decide) rfl rfl ?_
  refine L_let fun g1 _ => ?_
  refine L_s (pc' := 9) rfl rfl ?_
  refine L_gf (pc' := 12) rfl fr_31_1 rfl ?_
  refine L_s (pc' := 13) rfl rfl ?_
  refine L_gf (pc' := 16) rfl fr_78_1 rfl ?_
  refine L_cv (pc' := 19) (as := [.ref 32, .ref 79]) (rest := []) rfl rfl (e_x_copyBytes_c1 (by omega) _) rfl fun g2 => ?_
  refine L_s (pc' := 20) rfl rfl ?_
  refine L_s (pc' := 21) rfl rfl ?_
  refine L_gf (pc' := 24) rfl fi_31_2 rfl ?_
  refine L_pf (pc' := 27) rfl sh_78 (by decide) rfl rfl ?_
  refine L_let fun g3 _ => ?_
  refine L_s (pc' := 28) rfl rfl ?_
  refine L_s (pc' := 29) rfl rfl ?_
  refine L_gf (pc' := 32) rfl fi_31_3 rfl ?_
  refine L_pf (pc' := 35) rfl sh_78 (by decide) rfl rfl ?_
  refine L_let fun g4 _ => ?_
  refine L_s (pc' := 36) rfl rfl ?_
  refine L_gf (pc' := 39) rfl fr_78_4 rfl ?_
  refine L_s (pc' := 40) rfl rfl ?_
  refine L_gf (pc' := 43) rfl fr_31_4 rfl ?_
  refine L_cv (pc' := 46) (as := [.ref 80, .ref 33]) (rest := []) rfl rfl (e_lines_copyFrom_c1 (by omega) _) rfl fun g5 => ?_
  refine L_s (pc' := 47) rfl rfl ?_
  refine L_gf (pc' := 50) rfl fr_31_5 rfl ?_
  refine L_s (pc' := 51) rfl rfl ?_
  refine L_gf (pc' := 54) rfl fr_78_5 rfl ?_
  refine L_cv (pc' := 57) (as := [.ref 41, .ref 88]) (rest := []) rfl rfl (e_x_copyFlags_c3 (by omega) _) rfl fun g6 => ?_
  exact L_ret rfl rfl rfl
def x_copyInts_c36  (g : Sg) : Option (Sg) :=
  lt1 (cp2 g 43 0 90 0 (Int32.toNatClampNeg 150)) (fun g1 => (some g1))
theorem e_x_copyInts_c36 {X : Xx} {d : Nat} (hd : 1 ≤ d)  (g : Sg) : ∀ r, x_copyInts_c36  g = some r → EvM zft mtl X d 145 [.ref 43, .ref 90] (SHF, g) ((fun r : Sg => ((none, (SHF, r)) : Out)) r) := by
  obtain ⟨d, rfl⟩ : ∃ d0, d = d0 + 1 := ⟨d - 1, by omega⟩
  have hd : 0 ≤ d := by omega
  refine E_in (f := (fun r : Sg => ((none, (SHF, r)) : Out))) rfl (Nat.le_of_ble_eq_true rfl) ?_
  unfold x_copyInts_c36
  change Lt X d none k_145 _ 0 [some (.ref 43), some (.ref 90)] [] g _
  refine L_s (pc' := 1) rfl rfl ?_
  refine L_ic (pc' := 2) rfl q1_0 rfl ?_
  refine L_s (pc' := 3) rfl rfl ?_
  refine L_ic (pc' := 4) rfl q1_0 rfl ?_
  refine L_s (pc' := 5) rfl rfl ?_
  refine L_s (pc' := 6) (st' := [.int 150, .int 0, .ref 90, .int 0, .ref 43]) rfl rfl ?_
  refine L_s (pc' := 7) rfl rfl ?_
  refine L_s (pc' := 8) (st' := [.int 150, .int 150, .int 0, .ref 90, .int 0, .ref 43]) rfl rfl ?_
  refine L_s (pc' := 11) rfl rfl ?_
  refine L_e (b := 150) (by decide) ?_
  refine L_cp (pc' := 14) rfl sh_43 sh_90 (by decide) (by decide) (by decide) (by decide) rfl rfl ?_
  refine L_let fun g1 _ => ?_
  exact L_ret rfl rfl rfl
def x_copyInts_c37  (g : Sg) : Option (Sg) :=
  lt1 (cp2 g 44 0 91 0 (Int32.toNatClampNeg 150)) (fun g1 => (some g1))
theorem e_x_copyInts_c37 {X : Xx} {d : Nat} (hd : 1 ≤ d)  (g : Sg) : ∀ r, x_copyInts_c37  g = some r → EvM zft mtl X d 145 [.ref 44, .ref 91] (SHF, g) ((fun r : Sg => ((none, (SHF, r)) : Out)) r) := by
  obtain ⟨d, rfl⟩ : ∃ d0, d = d0 + 1 := ⟨d - 1, by omega⟩
  have hd : 0 ≤ d := by omega
  refine E_in (f := (fun r : Sg => ((none, (SHF, r)) : Out))) rfl (Nat.le_of_ble_eq_true rfl) ?_
  unfold x_copyInts_c37
  change Lt X d none k_145 _ 0 [some (.ref 44), some (.ref 91)] [] g _
  refine L_s (pc' := 1) rfl rfl ?_
  refine L_ic (pc' := 2) rfl q1_0 rfl ?_
  refine L_s (pc' := 3) rfl rfl ?_
  refine L_ic (pc' := 4) rfl q1_0 rfl ?_
  refine L_s (pc' := 5) rfl rfl ?_
  refine L_s (pc' := 6) (st' := [.int 150, .int 0, .ref 91, .int 0, .ref 44]) rfl rfl ?_
  refine L_s (pc' := 7) rfl rfl ?_
  refine L_s (pc' := 8) (st' := [.int 150, .int 150, .int 0, .ref 91, .int 0, .ref 44]) rfl rfl ?_
  refine L_s (pc' := 11) rfl rfl ?_
  refine L_e (b := 150) (by decide) ?_
  refine L_cp (pc' := 14) rfl sh_44 sh_91 (by decide) (by decide) (by decide) (by decide) rfl rfl ?_
  refine L_let fun g1 _ => ?_
  exact L_ret rfl rfl rfl
def x_copyInts_c38  (g : Sg) : Option (Sg) :=
  lt1 (cp2 g 45 0 92 0 (Int32.toNatClampNeg 150)) (fun g1 => (some g1))
theorem e_x_copyInts_c38 {X : Xx} {d : Nat} (hd : 1 ≤ d)  (g : Sg) : ∀ r, x_copyInts_c38  g = some r → EvM zft mtl X d 145 [.ref 45, .ref 92] (SHF, g) ((fun r : Sg => ((none, (SHF, r)) : Out)) r) := by
  obtain ⟨d, rfl⟩ : ∃ d0, d = d0 + 1 := ⟨d - 1, by omega⟩
  have hd : 0 ≤ d := by omega
  refine E_in (f := (fun r : Sg => ((none, (SHF, r)) : Out))) rfl (Nat.le_of_ble_eq_true rfl) ?_
  unfold x_copyInts_c38
  change Lt X d none k_145 _ 0 [some (.ref 45), some (.ref 92)] [] g _
  refine L_s (pc' := 1) rfl rfl ?_
  refine L_ic (pc' := 2) rfl q1_0 rfl ?_
  refine L_s (pc' := 3) rfl rfl ?_
  refine L_ic (pc' := 4) rfl q1_0 rfl ?_
  refine L_s (pc' := 5) rfl rfl ?_
  refine L_s (pc' := 6) (st' := [.int 150, .int 0, .ref 92, .int 0, .ref 45]) rfl rfl ?_
  refine L_s (pc' := 7) rfl rfl ?_
  refine L_s (pc' := 8) (st' := [.int 150, .int 150, .int 0, .ref 92, .int 0, .ref 45]) rfl rfl ?_
  refine L_s (pc' := 11) rfl rfl ?_
  refine L_e (b := 150) (by decide) ?_
  refine L_cp (pc' := 14) rfl sh_45 sh_92 (by decide) (by decide) (by decide) (by decide) rfl rfl ?_
  refine L_let fun g1 _ => ?_
  exact L_ret rfl rfl rfl
def x_copyInts_c39  (g : Sg) : Option (Sg) :=
  lt1 (cp2 g 46 0 93 0 (Int32.toNatClampNeg 150)) (fun g1 => (some g1))
theorem e_x_copyInts_c39 {X : Xx} {d : Nat} (hd : 1 ≤ d)  (g : Sg) : ∀ r, x_copyInts_c39  g = some r → EvM zft mtl X d 145 [.ref 46, .ref 93] (SHF, g) ((fun r : Sg => ((none, (SHF, r)) : Out)) r) := by
  obtain ⟨d, rfl⟩ : ∃ d0, d = d0 + 1 := ⟨d - 1, by omega⟩
  have hd : 0 ≤ d := by omega
  refine E_in (f := (fun r : Sg => ((none, (SHF, r)) : Out))) rfl (Nat.le_of_ble_eq_true rfl) ?_
  unfold x_copyInts_c39
  change Lt X d none k_145 _ 0 [some (.ref 46), some (.ref 93)] [] g _
  refine L_s (pc' := 1) rfl rfl ?_
  refine L_ic (pc' := 2) rfl q1_0 rfl ?_
  refine L_s (pc' := 3) rfl rfl ?_
  refine L_ic (pc' := 4) rfl q1_0 rfl ?_
  refine L_s (pc' := 5) rfl rfl ?_
  refine L_s (pc' := 6) (st' := [.int 150, .int 0, .ref 93, .int 0, .ref 46]) rfl rfl ?_
  refine L_s (pc' := 7) rfl rfl ?_
  refine L_s (pc' := 8) (st' := [.int 150, .int 150, .int 0, .ref 93, .int 0, .ref 46]) rfl rfl ?_
  refine L_s (pc' := 11) rfl rfl ?_
  refine L_e (b := 150) (by decide) ?_
  refine L_cp (pc' := 14) rfl sh_46 sh_93 (by decide) (by decide) (by decide) (by decide) rfl rfl ?_
  refine L_let fun g1 _ => ?_
  exact L_ret rfl rfl rfl
def gauges_copyFrom  (g : Sg) : Option (Sg) :=
  lt1 (up2 g 89 0 (g 42 0)) (fun g1 => Option.bind (x_copyInts_c36 g1) (fun g2 => Option.bind (x_copyInts_c37 g2) (fun g3 => Option.bind (x_copyInts_c38 g3) (fun g4 => Option.bind (x_copyInts_c39 g4) (fun g5 => (some g5))))))
theorem e_gauges_copyFrom {X : Xx} {d : Nat} (hd : 2 ≤ d)  (g : Sg) : ∀ r, gauges_copyFrom  g = some r → EvM zft mtl X d 13 [.ref 89, .ref 42] (SHF, g) ((fun r : Sg => ((none, (SHF, r)) : Out)) r) := by
  obtain ⟨d, rfl⟩ : ∃ d0, d = d0 + 1 := ⟨d - 1, by omega⟩
  have hd : 1 ≤ d := by omega
  refine E_in (f := (fun r : Sg => ((none, (SHF, r)) : Out))) rfl (Nat.le_of_ble_eq_true rfl) ?_
  unfold gauges_copyFrom
  change Lt X d none k_13 _ 0 [some (.ref 89), some (.ref 42)] [] g _
  refine L_s (pc' := 1) rfl rfl ?_
  refine L_s (pc' := 2) rfl rfl ?_
  refine L_gf (pc' := 5) rfl fi_42_0 rfl ?_
  refine L_pf (pc' := 8) rfl sh_89 (by decide) rfl rfl ?_
  refine L_let fun g1 _ => ?_
  refine L_s (pc' := 9) rfl rfl ?_
  refine L_gf (pc' := 12) rfl fr_42_1 rfl ?_
  refine L_s (pc' := 13) rfl rfl ?_
  refine L_gf (pc' := 16) rfl fr_89_1 rfl ?_
  refine L_cv (pc' := 19) (as := [.ref 43, .ref 90]) (rest := []) rfl rfl (e_x_copyInts_c36 (by omega) _) rfl fun g2 => ?_
  refine L_s (pc' := 20) rfl rfl ?_
  refine L_gf (pc' := 23) rfl fr_42_2 rfl ?_
  refine L_s (pc' := 24) rfl rfl ?_
  refine L_gf (pc' := 27) rfl fr_89_2 rfl ?_
  refine L_cv (pc' := 30) (as := [.ref 44, .ref 91]) (rest := []) rfl rfl (e_x_copyInts_c37 (by omega) _) rfl fun g3 => ?_
  refine L_s (pc' := 31) rfl rfl ?_
  refine L_gf (pc' := 34) rfl fr_42_3 rfl ?_
  refine L_s (pc' := 35) rfl rfl ?_
  refine L_gf (pc' := 38) rfl fr_89_3 rfl ?_
  refine L_cv (pc' := 41) (as := [.ref 45, .ref 92]) (rest := []) rfl rfl (e_x_copyInts_c38 (by omega) _) rfl fun g4 => ?_
  refine L_s (pc' := 42) rfl rfl ?_
  refine L_gf (pc' := 45) rfl fr_42_4 rfl ?_
  refine L_s (pc' := 46) rfl rfl ?_
  refine L_gf (pc' := 49) rfl fr_89_4 rfl ?_
  refine L_cv (pc' := 52) (as := [.ref 46, .ref 93]) (rest := []) rfl rfl (e_x_copyInts_c39 (by omega) _) rfl fun g5 => ?_
  exact L_ret rfl rfl rfl
def told_copyFrom  (g : Sg) : Option (Sg) :=
  Option.bind (net_copyFrom g) (fun g1 => Option.bind (rights_copyFrom g1) (fun g2 => Option.bind (law_copyFrom g2) (fun g3 => Option.bind (gauges_copyFrom g3) (fun g4 => (some g4)))))
theorem e_told_copyFrom {X : Xx} {d : Nat} (hd : 4 ≤ d)  (g : Sg) : ∀ r, told_copyFrom  g = some r → EvM zft mtl X d 88 [.ref 48, .ref 1] (SHF, g) ((fun r : Sg => ((none, (SHF, r)) : Out)) r) := by
  obtain ⟨d, rfl⟩ : ∃ d0, d = d0 + 1 := ⟨d - 1, by omega⟩
  have hd : 3 ≤ d := by omega
  refine E_in (f := (fun r : Sg => ((none, (SHF, r)) : Out))) rfl (Nat.le_of_ble_eq_true rfl) ?_
  unfold told_copyFrom
  change Lt X d none k_88 _ 0 [some (.ref 48), some (.ref 1)] [] g _
  refine L_s (pc' := 1) rfl rfl ?_
  refine L_gf (pc' := 4) rfl fr_48_0 rfl ?_
  refine L_s (pc' := 5) rfl rfl ?_
  refine L_gf (pc' := 8) rfl fr_1_0 rfl ?_
  refine L_cv (pc' := 11) (as := [.ref 49, .ref 2]) (rest := []) rfl rfl (e_net_copyFrom (by omega) _) rfl fun g1 => ?_
  refine L_s (pc' := 12) rfl rfl ?_
  refine L_gf (pc' := 15) rfl fr_48_1 rfl ?_
  refine L_s (pc' := 16) rfl rfl ?_
  refine L_gf (pc' := 19) rfl fr_1_1 rfl ?_
  refine L_cv (pc' := 22) (as := [.ref 69, .ref 22]) (rest := []) rfl rfl (e_rights_copyFrom (by omega) _) rfl fun g2 => ?_
  refine L_s (pc' := 23) rfl rfl ?_
  refine L_gf (pc' := 26) rfl fr_48_2 rfl ?_
  refine L_s (pc' := 27) rfl rfl ?_
  refine L_gf (pc' := 30) rfl fr_1_2 rfl ?_
  refine L_cv (pc' := 33) (as := [.ref 78, .ref 31]) (rest := []) rfl rfl (e_law_copyFrom (by omega) _) rfl fun g3 => ?_
  refine L_s (pc' := 34) rfl rfl ?_
  refine L_gf (pc' := 37) rfl fr_48_3 rfl ?_
  refine L_s (pc' := 38) rfl rfl ?_
  refine L_gf (pc' := 41) rfl fr_1_3 rfl ?_
  refine L_cv (pc' := 44) (as := [.ref 89, .ref 42]) (rest := []) rfl rfl (e_gauges_copyFrom (by omega) _) rfl fun g4 => ?_
  exact L_ret rfl rfl rfl
def x_copyInts_c40  (g : Sg) : Option (Sg) :=
  lt1 (cp2 g 3 0 96 0 (Int32.toNatClampNeg 10)) (fun g1 => (some g1))
theorem e_x_copyInts_c40 {X : Xx} {d : Nat} (hd : 1 ≤ d)  (g : Sg) : ∀ r, x_copyInts_c40  g = some r → EvM zft mtl X d 145 [.ref 3, .ref 96] (SHF, g) ((fun r : Sg => ((none, (SHF, r)) : Out)) r) := by
  obtain ⟨d, rfl⟩ : ∃ d0, d = d0 + 1 := ⟨d - 1, by omega⟩
  have hd : 0 ≤ d := by omega
  refine E_in (f := (fun r : Sg => ((none, (SHF, r)) : Out))) rfl (Nat.le_of_ble_eq_true rfl) ?_
  unfold x_copyInts_c40
  change Lt X d none k_145 _ 0 [some (.ref 3), some (.ref 96)] [] g _
  refine L_s (pc' := 1) rfl rfl ?_
  refine L_ic (pc' := 2) rfl q1_0 rfl ?_
  refine L_s (pc' := 3) rfl rfl ?_
  refine L_ic (pc' := 4) rfl q1_0 rfl ?_
  refine L_s (pc' := 5) rfl rfl ?_
  refine L_s (pc' := 6) (st' := [.int 10, .int 0, .ref 96, .int 0, .ref 3]) rfl rfl ?_
  refine L_s (pc' := 7) rfl rfl ?_
  refine L_s (pc' := 8) (st' := [.int 10, .int 10, .int 0, .ref 96, .int 0, .ref 3]) rfl rfl ?_
  refine L_s (pc' := 11) rfl rfl ?_
  refine L_e (b := 10) (by decide) ?_
  refine L_cp (pc' := 14) rfl sh_3 sh_96 (by decide) (by decide) (by decide) (by decide) rfl rfl ?_
  refine L_let fun g1 _ => ?_
  exact L_ret rfl rfl rfl
def x_copyInts_c41  (g : Sg) : Option (Sg) :=
  lt1 (cp2 g 4 0 97 0 (Int32.toNatClampNeg 10)) (fun g1 => (some g1))
theorem e_x_copyInts_c41 {X : Xx} {d : Nat} (hd : 1 ≤ d)  (g : Sg) : ∀ r, x_copyInts_c41  g = some r → EvM zft mtl X d 145 [.ref 4, .ref 97] (SHF, g) ((fun r : Sg => ((none, (SHF, r)) : Out)) r) := by
  obtain ⟨d, rfl⟩ : ∃ d0, d = d0 + 1 := ⟨d - 1, by omega⟩
  have hd : 0 ≤ d := by omega
  refine E_in (f := (fun r : Sg => ((none, (SHF, r)) : Out))) rfl (Nat.le_of_ble_eq_true rfl) ?_
  unfold x_copyInts_c41
  change Lt X d none k_145 _ 0 [some (.ref 4), some (.ref 97)] [] g _
  refine L_s (pc' := 1) rfl rfl ?_
  refine L_ic (pc' := 2) rfl q1_0 rfl ?_
  refine L_s (pc' := 3) rfl rfl ?_
  refine L_ic (pc' := 4) rfl q1_0 rfl ?_
  refine L_s (pc' := 5) rfl rfl ?_
  refine L_s (pc' := 6) (st' := [.int 10, .int 0, .ref 97, .int 0, .ref 4]) rfl rfl ?_
  refine L_s (pc' := 7) rfl rfl ?_
  refine L_s (pc' := 8) (st' := [.int 10, .int 10, .int 0, .ref 97, .int 0, .ref 4]) rfl rfl ?_
  refine L_s (pc' := 11) rfl rfl ?_
  refine L_e (b := 10) (by decide) ?_
  refine L_cp (pc' := 14) rfl sh_4 sh_97 (by decide) (by decide) (by decide) (by decide) rfl rfl ?_
  refine L_let fun g1 _ => ?_
  exact L_ret rfl rfl rfl
def x_copyInts_c42  (g : Sg) : Option (Sg) :=
  lt1 (cp2 g 5 0 98 0 (Int32.toNatClampNeg 10)) (fun g1 => (some g1))
theorem e_x_copyInts_c42 {X : Xx} {d : Nat} (hd : 1 ≤ d)  (g : Sg) : ∀ r, x_copyInts_c42  g = some r → EvM zft mtl X d 145 [.ref 5, .ref 98] (SHF, g) ((fun r : Sg => ((none, (SHF, r)) : Out)) r) := by
  obtain ⟨d, rfl⟩ : ∃ d0, d = d0 + 1 := ⟨d - 1, by omega⟩
  have hd : 0 ≤ d := by omega
  refine E_in (f := (fun r : Sg => ((none, (SHF, r)) : Out))) rfl (Nat.le_of_ble_eq_true rfl) ?_
  unfold x_copyInts_c42
  change Lt X d none k_145 _ 0 [some (.ref 5), some (.ref 98)] [] g _
  refine L_s (pc' := 1) rfl rfl ?_
  refine L_ic (pc' := 2) rfl q1_0 rfl ?_
  refine L_s (pc' := 3) rfl rfl ?_
  refine L_ic (pc' := 4) rfl q1_0 rfl ?_
  refine L_s (pc' := 5) rfl rfl ?_
  refine L_s (pc' := 6) (st' := [.int 10, .int 0, .ref 98, .int 0, .ref 5]) rfl rfl ?_
  refine L_s (pc' := 7) rfl rfl ?_
  refine L_s (pc' := 8) (st' := [.int 10, .int 10, .int 0, .ref 98, .int 0, .ref 5]) rfl rfl ?_
  refine L_s (pc' := 11) rfl rfl ?_
  refine L_e (b := 10) (by decide) ?_
  refine L_cp (pc' := 14) rfl sh_5 sh_98 (by decide) (by decide) (by decide) (by decide) rfl rfl ?_
  refine L_let fun g1 _ => ?_
  exact L_ret rfl rfl rfl
def x_copyInts_c43  (g : Sg) : Option (Sg) :=
  lt1 (cp2 g 9 0 102 0 (Int32.toNatClampNeg 14)) (fun g1 => (some g1))
theorem e_x_copyInts_c43 {X : Xx} {d : Nat} (hd : 1 ≤ d)  (g : Sg) : ∀ r, x_copyInts_c43  g = some r → EvM zft mtl X d 145 [.ref 9, .ref 102] (SHF, g) ((fun r : Sg => ((none, (SHF, r)) : Out)) r) := by
  obtain ⟨d, rfl⟩ : ∃ d0, d = d0 + 1 := ⟨d - 1, by omega⟩
  have hd : 0 ≤ d := by omega
  refine E_in (f := (fun r : Sg => ((none, (SHF, r)) : Out))) rfl (Nat.le_of_ble_eq_true rfl) ?_
  unfold x_copyInts_c43
  change Lt X d none k_145 _ 0 [some (.ref 9), some (.ref 102)] [] g _
  refine L_s (pc' := 1) rfl rfl ?_
  refine L_ic (pc' := 2) rfl q1_0 rfl ?_
  refine L_s (pc' := 3) rfl rfl ?_
  refine L_ic (pc' := 4) rfl q1_0 rfl ?_
  refine L_s (pc' := 5) rfl rfl ?_
  refine L_s (pc' := 6) (st' := [.int 14, .int 0, .ref 102, .int 0, .ref 9]) rfl rfl ?_
  refine L_s (pc' := 7) rfl rfl ?_
  refine L_s (pc' := 8) (st' := [.int 14, .int 14, .int 0, .ref 102, .int 0, .ref 9]) rfl rfl ?_
  refine L_s (pc' := 11) rfl rfl ?_
  refine L_e (b := 14) (by decide) ?_
  refine L_cp (pc' := 14) rfl sh_9 sh_102 (by decide) (by decide) (by decide) (by decide) rfl rfl ?_
  refine L_let fun g1 _ => ?_
  exact L_ret rfl rfl rfl
def x_copyInts_c44  (g : Sg) : Option (Sg) :=
  lt1 (cp2 g 10 0 103 0 (Int32.toNatClampNeg 14)) (fun g1 => (some g1))
theorem e_x_copyInts_c44 {X : Xx} {d : Nat} (hd : 1 ≤ d)  (g : Sg) : ∀ r, x_copyInts_c44  g = some r → EvM zft mtl X d 145 [.ref 10, .ref 103] (SHF, g) ((fun r : Sg => ((none, (SHF, r)) : Out)) r) := by
  obtain ⟨d, rfl⟩ : ∃ d0, d = d0 + 1 := ⟨d - 1, by omega⟩
  have hd : 0 ≤ d := by omega
  refine E_in (f := (fun r : Sg => ((none, (SHF, r)) : Out))) rfl (Nat.le_of_ble_eq_true rfl) ?_
  unfold x_copyInts_c44
  change Lt X d none k_145 _ 0 [some (.ref 10), some (.ref 103)] [] g _
  refine L_s (pc' := 1) rfl rfl ?_
  refine L_ic (pc' := 2) rfl q1_0 rfl ?_
  refine L_s (pc' := 3) rfl rfl ?_
  refine L_ic (pc' := 4) rfl q1_0 rfl ?_
  refine L_s (pc' := 5) rfl rfl ?_
  refine L_s (pc' := 6) (st' := [.int 14, .int 0, .ref 103, .int 0, .ref 10]) rfl rfl ?_
  refine L_s (pc' := 7) rfl rfl ?_
  refine L_s (pc' := 8) (st' := [.int 14, .int 14, .int 0, .ref 103, .int 0, .ref 10]) rfl rfl ?_
  refine L_s (pc' := 11) rfl rfl ?_
  refine L_e (b := 14) (by decide) ?_
  refine L_cp (pc' := 14) rfl sh_10 sh_103 (by decide) (by decide) (by decide) (by decide) rfl rfl ?_
  refine L_let fun g1 _ => ?_
  exact L_ret rfl rfl rfl
def x_copyInts_c45  (g : Sg) : Option (Sg) :=
  lt1 (cp2 g 11 0 104 0 (Int32.toNatClampNeg 14)) (fun g1 => (some g1))
theorem e_x_copyInts_c45 {X : Xx} {d : Nat} (hd : 1 ≤ d)  (g : Sg) : ∀ r, x_copyInts_c45  g = some r → EvM zft mtl X d 145 [.ref 11, .ref 104] (SHF, g) ((fun r : Sg => ((none, (SHF, r)) : Out)) r) := by
  obtain ⟨d, rfl⟩ : ∃ d0, d = d0 + 1 := ⟨d - 1, by omega⟩
  have hd : 0 ≤ d := by omega
  refine E_in (f := (fun r : Sg => ((none, (SHF, r)) : Out))) rfl (Nat.le_of_ble_eq_true rfl) ?_
  unfold x_copyInts_c45
  change Lt X d none k_145 _ 0 [some (.ref 11), some (.ref 104)] [] g _
  refine L_s (pc' := 1) rfl rfl ?_
  refine L_ic (pc' := 2) rfl q1_0 rfl ?_
  refine L_s (pc' := 3) rfl rfl ?_
  refine L_ic (pc' := 4) rfl q1_0 rfl ?_
  refine L_s (pc' := 5) rfl rfl ?_
  refine L_s (pc' := 6) (st' := [.int 14, .int 0, .ref 104, .int 0, .ref 11]) rfl rfl ?_
  refine L_s (pc' := 7) rfl rfl ?_
  refine L_s (pc' := 8) (st' := [.int 14, .int 14, .int 0, .ref 104, .int 0, .ref 11]) rfl rfl ?_
  refine L_s (pc' := 11) rfl rfl ?_
  refine L_e (b := 14) (by decide) ?_
  refine L_cp (pc' := 14) rfl sh_11 sh_104 (by decide) (by decide) (by decide) (by decide) rfl rfl ?_
  refine L_let fun g1 _ => ?_
  exact L_ret rfl rfl rfl
def x_copyInts_c46  (g : Sg) : Option (Sg) :=
  lt1 (cp2 g 12 0 105 0 (Int32.toNatClampNeg 14)) (fun g1 => (some g1))
theorem e_x_copyInts_c46 {X : Xx} {d : Nat} (hd : 1 ≤ d)  (g : Sg) : ∀ r, x_copyInts_c46  g = some r → EvM zft mtl X d 145 [.ref 12, .ref 105] (SHF, g) ((fun r : Sg => ((none, (SHF, r)) : Out)) r) := by
  obtain ⟨d, rfl⟩ : ∃ d0, d = d0 + 1 := ⟨d - 1, by omega⟩
  have hd : 0 ≤ d := by omega
  refine E_in (f := (fun r : Sg => ((none, (SHF, r)) : Out))) rfl (Nat.le_of_ble_eq_true rfl) ?_
  unfold x_copyInts_c46
  change Lt X d none k_145 _ 0 [some (.ref 12), some (.ref 105)] [] g _
  refine L_s (pc' := 1) rfl rfl ?_
  refine L_ic (pc' := 2) rfl q1_0 rfl ?_
  refine L_s (pc' := 3) rfl rfl ?_
  refine L_ic (pc' := 4) rfl q1_0 rfl ?_
  refine L_s (pc' := 5) rfl rfl ?_
  refine L_s (pc' := 6) (st' := [.int 14, .int 0, .ref 105, .int 0, .ref 12]) rfl rfl ?_
  refine L_s (pc' := 7) rfl rfl ?_
  refine L_s (pc' := 8) (st' := [.int 14, .int 14, .int 0, .ref 105, .int 0, .ref 12]) rfl rfl ?_
  refine L_s (pc' := 11) rfl rfl ?_
  refine L_e (b := 14) (by decide) ?_
  refine L_cp (pc' := 14) rfl sh_12 sh_105 (by decide) (by decide) (by decide) (by decide) rfl rfl ?_
  refine L_let fun g1 _ => ?_
  exact L_ret rfl rfl rfl
def x_copyInts_c47  (g : Sg) : Option (Sg) :=
  lt1 (cp2 g 13 0 106 0 (Int32.toNatClampNeg 14)) (fun g1 => (some g1))
theorem e_x_copyInts_c47 {X : Xx} {d : Nat} (hd : 1 ≤ d)  (g : Sg) : ∀ r, x_copyInts_c47  g = some r → EvM zft mtl X d 145 [.ref 13, .ref 106] (SHF, g) ((fun r : Sg => ((none, (SHF, r)) : Out)) r) := by
  obtain ⟨d, rfl⟩ : ∃ d0, d = d0 + 1 := ⟨d - 1, by omega⟩
  have hd : 0 ≤ d := by omega
  refine E_in (f := (fun r : Sg => ((none, (SHF, r)) : Out))) rfl (Nat.le_of_ble_eq_true rfl) ?_
  unfold x_copyInts_c47
  change Lt X d none k_145 _ 0 [some (.ref 13), some (.ref 106)] [] g _
  refine L_s (pc' := 1) rfl rfl ?_
  refine L_ic (pc' := 2) rfl q1_0 rfl ?_
  refine L_s (pc' := 3) rfl rfl ?_
  refine L_ic (pc' := 4) rfl q1_0 rfl ?_
  refine L_s (pc' := 5) rfl rfl ?_
  refine L_s (pc' := 6) (st' := [.int 14, .int 0, .ref 106, .int 0, .ref 13]) rfl rfl ?_
  refine L_s (pc' := 7) rfl rfl ?_
  refine L_s (pc' := 8) (st' := [.int 14, .int 14, .int 0, .ref 106, .int 0, .ref 13]) rfl rfl ?_
  refine L_s (pc' := 11) rfl rfl ?_
  refine L_e (b := 14) (by decide) ?_
  refine L_cp (pc' := 14) rfl sh_13 sh_106 (by decide) (by decide) (by decide) (by decide) rfl rfl ?_
  refine L_let fun g1 _ => ?_
  exact L_ret rfl rfl rfl
def x_copyInts_c48  (g : Sg) : Option (Sg) :=
  lt1 (cp2 g 14 0 107 0 (Int32.toNatClampNeg 14)) (fun g1 => (some g1))
theorem e_x_copyInts_c48 {X : Xx} {d : Nat} (hd : 1 ≤ d)  (g : Sg) : ∀ r, x_copyInts_c48  g = some r → EvM zft mtl X d 145 [.ref 14, .ref 107] (SHF, g) ((fun r : Sg => ((none, (SHF, r)) : Out)) r) := by
  obtain ⟨d, rfl⟩ : ∃ d0, d = d0 + 1 := ⟨d - 1, by omega⟩
  have hd : 0 ≤ d := by omega
  refine E_in (f := (fun r : Sg => ((none, (SHF, r)) : Out))) rfl (Nat.le_of_ble_eq_true rfl) ?_
  unfold x_copyInts_c48
  change Lt X d none k_145 _ 0 [some (.ref 14), some (.ref 107)] [] g _
  refine L_s (pc' := 1) rfl rfl ?_
  refine L_ic (pc' := 2) rfl q1_0 rfl ?_
  refine L_s (pc' := 3) rfl rfl ?_
  refine L_ic (pc' := 4) rfl q1_0 rfl ?_
  refine L_s (pc' := 5) rfl rfl ?_
  refine L_s (pc' := 6) (st' := [.int 14, .int 0, .ref 107, .int 0, .ref 14]) rfl rfl ?_
  refine L_s (pc' := 7) rfl rfl ?_
  refine L_s (pc' := 8) (st' := [.int 14, .int 14, .int 0, .ref 107, .int 0, .ref 14]) rfl rfl ?_
  refine L_s (pc' := 11) rfl rfl ?_
  refine L_e (b := 14) (by decide) ?_
  refine L_cp (pc' := 14) rfl sh_14 sh_107 (by decide) (by decide) (by decide) (by decide) rfl rfl ?_
  refine L_let fun g1 _ => ?_
  exact L_ret rfl rfl rfl
def x_copyFlags_c4  (g : Sg) : Option (Sg) :=
  lt1 (cp2 g 15 0 108 0 (Int32.toNatClampNeg 14)) (fun g1 => (some g1))
theorem e_x_copyFlags_c4 {X : Xx} {d : Nat} (hd : 1 ≤ d)  (g : Sg) : ∀ r, x_copyFlags_c4  g = some r → EvM zft mtl X d 147 [.ref 15, .ref 108] (SHF, g) ((fun r : Sg => ((none, (SHF, r)) : Out)) r) := by
  obtain ⟨d, rfl⟩ : ∃ d0, d = d0 + 1 := ⟨d - 1, by omega⟩
  have hd : 0 ≤ d := by omega
  refine E_in (f := (fun r : Sg => ((none, (SHF, r)) : Out))) rfl (Nat.le_of_ble_eq_true rfl) ?_
  unfold x_copyFlags_c4
  change Lt X d none k_147 _ 0 [some (.ref 15), some (.ref 108)] [] g _
  refine L_s (pc' := 1) rfl rfl ?_
  refine L_ic (pc' := 2) rfl q1_0 rfl ?_
  refine L_s (pc' := 3) rfl rfl ?_
  refine L_ic (pc' := 4) rfl q1_0 rfl ?_
  refine L_s (pc' := 5) rfl rfl ?_
  refine L_s (pc' := 6) (st' := [.int 14, .int 0, .ref 108, .int 0, .ref 15]) rfl rfl ?_
  refine L_s (pc' := 7) rfl rfl ?_
  refine L_s (pc' := 8) (st' := [.int 14, .int 14, .int 0, .ref 108, .int 0, .ref 15]) rfl rfl ?_
  refine L_s (pc' := 11) rfl rfl ?_
  refine L_e (b := 14) (by decide) ?_
  refine L_cp (pc' := 14) rfl sh_15 sh_108 (by decide) (by decide) (by decide) (by decide) rfl rfl ?_
  refine L_let fun g1 _ => ?_
  exact L_ret rfl rfl rfl
def x_copyInts_c49  (g : Sg) : Option (Sg) :=
  lt1 (cp2 g 7 0 100 0 (Int32.toNatClampNeg 10)) (fun g1 => (some g1))
theorem e_x_copyInts_c49 {X : Xx} {d : Nat} (hd : 1 ≤ d)  (g : Sg) : ∀ r, x_copyInts_c49  g = some r → EvM zft mtl X d 145 [.ref 7, .ref 100] (SHF, g) ((fun r : Sg => ((none, (SHF, r)) : Out)) r) := by
  obtain ⟨d, rfl⟩ : ∃ d0, d = d0 + 1 := ⟨d - 1, by omega⟩
  have hd : 0 ≤ d := by omega
  refine E_in (f := (fun r : Sg => ((none, (SHF, r)) : Out))) rfl (Nat.le_of_ble_eq_true rfl) ?_
  unfold x_copyInts_c49
  change Lt X d none k_145 _ 0 [some (.ref 7), some (.ref 100)] [] g _
  refine L_s (pc' := 1) rfl rfl ?_
  refine L_ic (pc' := 2) rfl q1_0 rfl ?_
  refine L_s (pc' := 3) rfl rfl ?_
  refine L_ic (pc' := 4) rfl q1_0 rfl ?_
  refine L_s (pc' := 5) rfl rfl ?_
  refine L_s (pc' := 6) (st' := [.int 10, .int 0, .ref 100, .int 0, .ref 7]) rfl rfl ?_
  refine L_s (pc' := 7) rfl rfl ?_
  refine L_s (pc' := 8) (st' := [.int 10, .int 10, .int 0, .ref 100, .int 0, .ref 7]) rfl rfl ?_
  refine L_s (pc' := 11) rfl rfl ?_
  refine L_e (b := 10) (by decide) ?_
  refine L_cp (pc' := 14) rfl sh_7 sh_100 (by decide) (by decide) (by decide) (by decide) rfl rfl ?_
  refine L_let fun g1 _ => ?_
  exact L_ret rfl rfl rfl
def x_copyInts_c50  (g : Sg) : Option (Sg) :=
  lt1 (cp2 g 17 0 110 0 (Int32.toNatClampNeg 126)) (fun g1 => (some g1))
theorem e_x_copyInts_c50 {X : Xx} {d : Nat} (hd : 1 ≤ d)  (g : Sg) : ∀ r, x_copyInts_c50  g = some r → EvM zft mtl X d 145 [.ref 17, .ref 110] (SHF, g) ((fun r : Sg => ((none, (SHF, r)) : Out)) r) := by
  obtain ⟨d, rfl⟩ : ∃ d0, d = d0 + 1 := ⟨d - 1, by omega⟩
  have hd : 0 ≤ d := by omega
  refine E_in (f := (fun r : Sg => ((none, (SHF, r)) : Out))) rfl (Nat.le_of_ble_eq_true rfl) ?_
  unfold x_copyInts_c50
  change Lt X d none k_145 _ 0 [some (.ref 17), some (.ref 110)] [] g _
  refine L_s (pc' := 1) rfl rfl ?_
  refine L_ic (pc' := 2) rfl q1_0 rfl ?_
  refine L_s (pc' := 3) rfl rfl ?_
  refine L_ic (pc' := 4) rfl q1_0 rfl ?_
  refine L_s (pc' := 5) rfl rfl ?_
  refine L_s (pc' := 6) (st' := [.int 126, .int 0, .ref 110, .int 0, .ref 17]) rfl rfl ?_
  refine L_s (pc' := 7) rfl rfl ?_
  refine L_s (pc' := 8) (st' := [.int 126, .int 126, .int 0, .ref 110, .int 0, .ref 17]) rfl rfl ?_
  refine L_s (pc' := 11) rfl rfl ?_
  refine L_e (b := 126) (by decide) ?_
  refine L_cp (pc' := 14) rfl sh_17 sh_110 (by decide) (by decide) (by decide) (by decide) rfl rfl ?_
  refine L_let fun g1 _ => ?_
  exact L_ret rfl rfl rfl
def x_copyInts_c51  (g : Sg) : Option (Sg) :=
  lt1 (cp2 g 8 0 101 0 (Int32.toNatClampNeg 10)) (fun g1 => (some g1))
theorem e_x_copyInts_c51 {X : Xx} {d : Nat} (hd : 1 ≤ d)  (g : Sg) : ∀ r, x_copyInts_c51  g = some r → EvM zft mtl X d 145 [.ref 8, .ref 101] (SHF, g) ((fun r : Sg => ((none, (SHF, r)) : Out)) r) := by
  obtain ⟨d, rfl⟩ : ∃ d0, d = d0 + 1 := ⟨d - 1, by omega⟩
  have hd : 0 ≤ d := by omega
  refine E_in (f := (fun r : Sg => ((none, (SHF, r)) : Out))) rfl (Nat.le_of_ble_eq_true rfl) ?_
  unfold x_copyInts_c51
  change Lt X d none k_145 _ 0 [some (.ref 8), some (.ref 101)] [] g _
  refine L_s (pc' := 1) rfl rfl ?_
  refine L_ic (pc' := 2) rfl q1_0 rfl ?_
  refine L_s (pc' := 3) rfl rfl ?_
  refine L_ic (pc' := 4) rfl q1_0 rfl ?_
  refine L_s (pc' := 5) rfl rfl ?_
  refine L_s (pc' := 6) (st' := [.int 10, .int 0, .ref 101, .int 0, .ref 8]) rfl rfl ?_
  refine L_s (pc' := 7) rfl rfl ?_
  refine L_s (pc' := 8) (st' := [.int 10, .int 10, .int 0, .ref 101, .int 0, .ref 8]) rfl rfl ?_
  refine L_s (pc' := 11) rfl rfl ?_
  refine L_e (b := 10) (by decide) ?_
  refine L_cp (pc' := 14) rfl sh_8 sh_101 (by decide) (by decide) (by decide) (by decide) rfl rfl ?_
  refine L_let fun g1 _ => ?_
  exact L_ret rfl rfl rfl
def x_copyInts_c52  (g : Sg) : Option (Sg) :=
  lt1 (cp2 g 18 0 111 0 (Int32.toNatClampNeg 126)) (fun g1 => (some g1))
theorem e_x_copyInts_c52 {X : Xx} {d : Nat} (hd : 1 ≤ d)  (g : Sg) : ∀ r, x_copyInts_c52  g = some r → EvM zft mtl X d 145 [.ref 18, .ref 111] (SHF, g) ((fun r : Sg => ((none, (SHF, r)) : Out)) r) := by
  obtain ⟨d, rfl⟩ : ∃ d0, d = d0 + 1 := ⟨d - 1, by omega⟩
  have hd : 0 ≤ d := by omega
  refine E_in (f := (fun r : Sg => ((none, (SHF, r)) : Out))) rfl (Nat.le_of_ble_eq_true rfl) ?_
  unfold x_copyInts_c52
  change Lt X d none k_145 _ 0 [some (.ref 18), some (.ref 111)] [] g _
  refine L_s (pc' := 1) rfl rfl ?_
  refine L_ic (pc' := 2) rfl q1_0 rfl ?_
  refine L_s (pc' := 3) rfl rfl ?_
  refine L_ic (pc' := 4) rfl q1_0 rfl ?_
  refine L_s (pc' := 5) rfl rfl ?_
  refine L_s (pc' := 6) (st' := [.int 126, .int 0, .ref 111, .int 0, .ref 18]) rfl rfl ?_
  refine L_s (pc' := 7) rfl rfl ?_
  refine L_s (pc' := 8) (st' := [.int 126, .int 126, .int 0, .ref 111, .int 0, .ref 18]) rfl rfl ?_
  refine L_s (pc' := 11) rfl rfl ?_
  refine L_e (b := 126) (by decide) ?_
  refine L_cp (pc' := 14) rfl sh_18 sh_111 (by decide) (by decide) (by decide) (by decide) rfl rfl ?_
  refine L_let fun g1 _ => ?_
  exact L_ret rfl rfl rfl
def x_copyInts_c53  (g : Sg) : Option (Sg) :=
  lt1 (cp2 g 19 0 112 0 (Int32.toNatClampNeg 2)) (fun g1 => (some g1))
theorem e_x_copyInts_c53 {X : Xx} {d : Nat} (hd : 1 ≤ d)  (g : Sg) : ∀ r, x_copyInts_c53  g = some r → EvM zft mtl X d 145 [.ref 19, .ref 112] (SHF, g) ((fun r : Sg => ((none, (SHF, r)) : Out)) r) := by
  obtain ⟨d, rfl⟩ : ∃ d0, d = d0 + 1 := ⟨d - 1, by omega⟩
  have hd : 0 ≤ d := by omega
  refine E_in (f := (fun r : Sg => ((none, (SHF, r)) : Out))) rfl (Nat.le_of_ble_eq_true rfl) ?_
  unfold x_copyInts_c53
  change Lt X d none k_145 _ 0 [some (.ref 19), some (.ref 112)] [] g _
  refine L_s (pc' := 1) rfl rfl ?_
  refine L_ic (pc' := 2) rfl q1_0 rfl ?_
  refine L_s (pc' := 3) rfl rfl ?_
  refine L_ic (pc' := 4) rfl q1_0 rfl ?_
  refine L_s (pc' := 5) rfl rfl ?_
  refine L_s (pc' := 6) (st' := [.int 2, .int 0, .ref 112, .int 0, .ref 19]) rfl rfl ?_
  refine L_s (pc' := 7) rfl rfl ?_
  refine L_s (pc' := 8) (st' := [.int 2, .int 2, .int 0, .ref 112, .int 0, .ref 19]) rfl rfl ?_
  refine L_s (pc' := 11) rfl rfl ?_
  refine L_e (b := 2) (by decide) ?_
  refine L_cp (pc' := 14) rfl sh_19 sh_112 (by decide) (by decide) (by decide) (by decide) rfl rfl ?_
  refine L_let fun g1 _ => ?_
  exact L_ret rfl rfl rfl
def x_copyInts_c54  (g : Sg) : Option (Sg) :=
  lt1 (cp2 g 20 0 113 0 (Int32.toNatClampNeg 2)) (fun g1 => (some g1))
theorem e_x_copyInts_c54 {X : Xx} {d : Nat} (hd : 1 ≤ d)  (g : Sg) : ∀ r, x_copyInts_c54  g = some r → EvM zft mtl X d 145 [.ref 20, .ref 113] (SHF, g) ((fun r : Sg => ((none, (SHF, r)) : Out)) r) := by
  obtain ⟨d, rfl⟩ : ∃ d0, d = d0 + 1 := ⟨d - 1, by omega⟩
  have hd : 0 ≤ d := by omega
  refine E_in (f := (fun r : Sg => ((none, (SHF, r)) : Out))) rfl (Nat.le_of_ble_eq_true rfl) ?_
  unfold x_copyInts_c54
  change Lt X d none k_145 _ 0 [some (.ref 20), some (.ref 113)] [] g _
  refine L_s (pc' := 1) rfl rfl ?_
  refine L_ic (pc' := 2) rfl q1_0 rfl ?_
  refine L_s (pc' := 3) rfl rfl ?_
  refine L_ic (pc' := 4) rfl q1_0 rfl ?_
  refine L_s (pc' := 5) rfl rfl ?_
  refine L_s (pc' := 6) (st' := [.int 2, .int 0, .ref 113, .int 0, .ref 20]) rfl rfl ?_
  refine L_s (pc' := 7) rfl rfl ?_
  refine L_s (pc' := 8) (st' := [.int 2, .int 2, .int 0, .ref 113, .int 0, .ref 20]) rfl rfl ?_
  refine L_s (pc' := 11) rfl rfl ?_
  refine L_e (b := 2) (by decide) ?_
  refine L_cp (pc' := 14) rfl sh_20 sh_113 (by decide) (by decide) (by decide) (by decide) rfl rfl ?_
  refine L_let fun g1 _ => ?_
  exact L_ret rfl rfl rfl
def x_copyInts_c55  (g : Sg) : Option (Sg) :=
  lt1 (cp2 g 21 0 114 0 (Int32.toNatClampNeg 2)) (fun g1 => (some g1))
theorem e_x_copyInts_c55 {X : Xx} {d : Nat} (hd : 1 ≤ d)  (g : Sg) : ∀ r, x_copyInts_c55  g = some r → EvM zft mtl X d 145 [.ref 21, .ref 114] (SHF, g) ((fun r : Sg => ((none, (SHF, r)) : Out)) r) := by
  obtain ⟨d, rfl⟩ : ∃ d0, d = d0 + 1 := ⟨d - 1, by omega⟩
  have hd : 0 ≤ d := by omega
  refine E_in (f := (fun r : Sg => ((none, (SHF, r)) : Out))) rfl (Nat.le_of_ble_eq_true rfl) ?_
  unfold x_copyInts_c55
  change Lt X d none k_145 _ 0 [some (.ref 21), some (.ref 114)] [] g _
  refine L_s (pc' := 1) rfl rfl ?_
  refine L_ic (pc' := 2) rfl q1_0 rfl ?_
  refine L_s (pc' := 3) rfl rfl ?_
  refine L_ic (pc' := 4) rfl q1_0 rfl ?_
  refine L_s (pc' := 5) rfl rfl ?_
  refine L_s (pc' := 6) (st' := [.int 2, .int 0, .ref 114, .int 0, .ref 21]) rfl rfl ?_
  refine L_s (pc' := 7) rfl rfl ?_
  refine L_s (pc' := 8) (st' := [.int 2, .int 2, .int 0, .ref 114, .int 0, .ref 21]) rfl rfl ?_
  refine L_s (pc' := 11) rfl rfl ?_
  refine L_e (b := 2) (by decide) ?_
  refine L_cp (pc' := 14) rfl sh_21 sh_114 (by decide) (by decide) (by decide) (by decide) rfl rfl ?_
  refine L_let fun g1 _ => ?_
  exact L_ret rfl rfl rfl
def net_copyFrom_c1  (g : Sg) : Option (Sg) :=
  lt1 (up2 g 95 0 (g 2 0)) (fun g1 => lt1 (up2 g1 95 1 (g1 2 1)) (fun g2 => lt1 (up2 g2 95 6 (g2 2 6)) (fun g3 => Option.bind (x_copyInts_c40 g3) (fun g4 => Option.bind (x_copyInts_c41 g4) (fun g5 => Option.bind (x_copyInts_c42 g5) (fun g6 => Option.bind (x_copyInts_c43 g6) (fun g7 => Option.bind (x_copyInts_c44 g7) (fun g8 => Option.bind (x_copyInts_c45 g8) (fun g9 => Option.bind (x_copyInts_c46 g9) (fun g10 => Option.bind (x_copyInts_c47 g10) (fun g11 => Option.bind (x_copyInts_c48 g11) (fun g12 => Option.bind (x_copyFlags_c4 g12) (fun g13 => Option.bind (x_copyInts_c49 g13) (fun g14 => Option.bind (x_copyInts_c50 g14) (fun g15 => Option.bind (x_copyInts_c51 g15) (fun g16 => Option.bind (x_copyInts_c52 g16) (fun g17 => Option.bind (x_copyInts_c53 g17) (fun g18 => Option.bind (x_copyInts_c54 g18) (fun g19 => Option.bind (x_copyInts_c55 g19) (fun g20 => (some g20)))))))))))))))))))))
theorem e_net_copyFrom_c1 {X : Xx} {d : Nat} (hd : 2 ≤ d)  (g : Sg) : ∀ r, net_copyFrom_c1  g = some r → EvM zft mtl X d 42 [.ref 95, .ref 2] (SHF, g) ((fun r : Sg => ((none, (SHF, r)) : Out)) r) := by
  obtain ⟨d, rfl⟩ : ∃ d0, d = d0 + 1 := ⟨d - 1, by omega⟩
  have hd : 1 ≤ d := by omega
  refine E_in (f := (fun r : Sg => ((none, (SHF, r)) : Out))) rfl (Nat.le_of_ble_eq_true rfl) ?_
  unfold net_copyFrom_c1
  change Lt X d none k_42 _ 0 [some (.ref 95), some (.ref 2), none] [] g _
  refine L_s (pc' := 1) rfl rfl ?_
  refine L_s (pc' := 2) rfl rfl ?_
  refine L_gf (pc' := 5) rfl fi_2_0 rfl ?_
  refine L_pf (pc' := 8) rfl sh_95 (by decide) rfl rfl ?_
  refine L_let fun g1 _ => ?_
  refine L_s (pc' := 9) rfl rfl ?_
  refine L_s (pc' := 10) rfl rfl ?_
  refine L_gf (pc' := 13) rfl fi_2_1 rfl ?_
  refine L_pf (pc' := 16) rfl sh_95 (by decide) rfl rfl ?_
  refine L_let fun g2 _ => ?_
  refine L_s (pc' := 17) rfl rfl ?_
  refine L_s (pc' := 18) rfl rfl ?_
  refine L_gf (pc' := 21) rfl fi_2_6 rfl ?_
  refine L_pf (pc' := 24) rfl sh_95 (by decide) rfl rfl ?_
  refine L_let fun g3 _ => ?_
  refine L_s (pc' := 25) rfl rfl ?_
  refine L_gf (pc' := 28) rfl fr_2_2 rfl ?_
  refine L_s (pc' := 29) rfl rfl ?_
  refine L_gf (pc' := 32) rfl fr_95_2 rfl ?_
  refine L_cv (pc' := 35) (as := [.ref 3, .ref 96]) (rest := []) rfl rfl (e_x_copyInts_c40 (by omega) _) rfl fun g4 => ?_
  refine L_s (pc' := 36) rfl rfl ?_
  refine L_gf (pc' := 39) rfl fr_2_3 rfl ?_
  refine L_s (pc' := 40) rfl rfl ?_
  refine L_gf (pc' := 43) rfl fr_95_3 rfl ?_
  refine L_cv (pc' := 46) (as := [.ref 4, .ref 97]) (rest := []) rfl rfl (e_x_copyInts_c41 (by omega) _) rfl fun g5 => ?_
  refine L_s (pc' := 47) rfl rfl ?_
  refine L_gf (pc' := 50) rfl fr_2_4 rfl ?_
  refine L_s (pc' := 51) rfl rfl ?_
  refine L_gf (pc' := 54) rfl fr_95_4 rfl ?_
  refine L_cv (pc' := 57) (as := [.ref 5, .ref 98]) (rest := []) rfl rfl (e_x_copyInts_c42 (by omega) _) rfl fun g6 => ?_
  refine L_s (pc' := 58) rfl rfl ?_
  refine L_gf (pc' := 61) rfl fr_2_7 rfl ?_
  refine L_s (pc' := 62) rfl rfl ?_
  refine L_gf (pc' := 65) rfl fr_95_7 rfl ?_
  refine L_cv (pc' := 68) (as := [.ref 9, .ref 102]) (rest := []) rfl rfl (e_x_copyInts_c43 (by omega) _) rfl fun g7 => ?_
  refine L_s (pc' := 69) rfl rfl ?_
  refine L_gf (pc' := 72) rfl fr_2_8 rfl ?_
  refine L_s (pc' := 73) rfl rfl ?_
  refine L_gf (pc' := 76) rfl fr_95_8 rfl ?_
  refine L_cv (pc' := 79) (as := [.ref 10, .ref 103]) (rest := []) rfl rfl (e_x_copyInts_c44 (by omega) _) rfl fun g8 => ?_
  refine L_s (pc' := 80) rfl rfl ?_
  refine L_gf (pc' := 83) rfl fr_2_9 rfl ?_
  refine L_s (pc' := 84) rfl rfl ?_
  refine L_gf (pc' := 87) rfl fr_95_9 rfl ?_
  refine L_cv (pc' := 90) (as := [.ref 11, .ref 104]) (rest := []) rfl rfl (e_x_copyInts_c45 (by omega) _) rfl fun g9 => ?_
  refine L_s (pc' := 91) rfl rfl ?_
  refine L_gf (pc' := 94) rfl fr_2_10 rfl ?_
  refine L_s (pc' := 95) rfl rfl ?_
  refine L_gf (pc' := 98) rfl fr_95_10 rfl ?_
  refine L_cv (pc' := 101) (as := [.ref 12, .ref 105]) (rest := []) rfl rfl (e_x_copyInts_c46 (by omega) _) rfl fun g10 => ?_
  refine L_s (pc' := 102) rfl rfl ?_
  refine L_gf (pc' := 105) rfl fr_2_11 rfl ?_
  refine L_s (pc' := 106) rfl rfl ?_
  refine L_gf (pc' := 109) rfl fr_95_11 rfl ?_
  refine L_cv (pc' := 112) (as := [.ref 13, .ref 106]) (rest := []) rfl rfl (e_x_copyInts_c47 (by omega) _) rfl fun g11 => ?_
  refine L_s (pc' := 113) rfl rfl ?_
  refine L_gf (pc' := 116) rfl fr_2_12 rfl ?_
  refine L_s (pc' := 117) rfl rfl ?_
  refine L_gf (pc' := 120) rfl fr_95_12 rfl ?_
  refine L_cv (pc' := 123) (as := [.ref 14, .ref 107]) (rest := []) rfl rfl (e_x_copyInts_c48 (by omega) _) rfl fun g12 => ?_
  refine L_s (pc' := 124) rfl rfl ?_
  refine L_gf (pc' := 127) rfl fr_2_13 rfl ?_
  refine L_s (pc' := 128) rfl rfl ?_
  refine L_gf (pc' := 131) rfl fr_95_13 rfl ?_
  refine L_cv (pc' := 134) (as := [.ref 15, .ref 108]) (rest := []) rfl rfl (e_x_copyFlags_c4 (by omega) _) rfl fun g13 => ?_
  refine L_ic (pc' := 135) rfl q1_0 rfl ?_
  refine L_s (pc' := 136) (L' := [some (.ref 95), some (.ref 2), some (.int 0)]) rfl rfl ?_
  refine L_s (pc' := 137) rfl rfl ?_
  refine L_ic (pc' := 138) rfl q1_2 rfl ?_
  refine L_bf (c := (2 : Int32) ≤ 0) (t := 177) (n := 141) rfl rfl (by decide) ?_
  refine L_s (pc' := 142) rfl rfl ?_
  refine L_gf (pc' := 145) rfl fr_2_5 rfl ?_
  refine L_s (pc' := 146) rfl rfl ?_
  refine L_aa (pc' := 147) rfl sh_6 (by decide) (by decide) rfl rfl ?_
  refine L_s (pc' := 148) rfl rfl ?_
  refine L_gf (pc' := 151) rfl fr_95_5 rfl ?_
  refine L_s (pc' := 152) rfl rfl ?_
  refine L_aa (pc' := 153) rfl sh_99 (by decide) (by decide) rfl rfl ?_
  refine L_cv (pc' := 156) (as := [.ref 7, .ref 100]) (rest := []) rfl rfl (e_x_copyInts_c49 (by omega) _) rfl fun g14 => ?_
  refine L_s (pc' := 157) rfl rfl ?_
  refine L_gf (pc' := 160) rfl fr_2_14 rfl ?_
  refine L_s (pc' := 161) rfl rfl ?_
  refine L_aa (pc' := 162) rfl sh_16 (by decide) (by decide) rfl rfl ?_
  refine L_s (pc' := 163) rfl rfl ?_
  refine L_gf (pc' := 166) rfl fr_95_14 rfl ?_
  refine L_s (pc' := 167) rfl rfl ?_
  refine L_aa (pc' := 168) rfl sh_109 (by decide) (by decide) rfl rfl ?_
  refine L_cv (pc' := 171) (as := [.ref 17, .ref 110]) (rest := []) rfl rfl (e_x_copyInts_c50 (by omega) _) rfl fun g15 => ?_
  refine L_ii (pc' := 174) (L' := [some (.ref 95), some (.ref 2), some (.int 1)]) rfl rfl q1_1 (by decide : (0 : Int32) + 1 = 1) rfl rfl ?_
  refine L_s (pc' := 136) rfl rfl ?_
  refine L_s (pc' := 137) rfl rfl ?_
  refine L_ic (pc' := 138) rfl q1_2 rfl ?_
  refine L_bf (c := (2 : Int32) ≤ 1) (t := 177) (n := 141) rfl rfl (by decide) ?_
  refine L_s (pc' := 142) rfl rfl ?_
  refine L_gf (pc' := 145) rfl fr_2_5 rfl ?_
  refine L_s (pc' := 146) rfl rfl ?_
  refine L_aa (pc' := 147) rfl sh_6 (by decide) (by decide) rfl rfl ?_
  refine L_s (pc' := 148) rfl rfl ?_
  refine L_gf (pc' := 151) rfl fr_95_5 rfl ?_
  refine L_s (pc' := 152) rfl rfl ?_
  refine L_aa (pc' := 153) rfl sh_99 (by decide) (by decide) rfl rfl ?_
  refine L_cv (pc' := 156) (as := [.ref 8, .ref 101]) (rest := []) rfl rfl (e_x_copyInts_c51 (by omega) _) rfl fun g16 => ?_
  refine L_s (pc' := 157) rfl rfl ?_
  refine L_gf (pc' := 160) rfl fr_2_14 rfl ?_
  refine L_s (pc' := 161) rfl rfl ?_
  refine L_aa (pc' := 162) rfl sh_16 (by decide) (by decide) rfl rfl ?_
  refine L_s (pc' := 163) rfl rfl ?_
  refine L_gf (pc' := 166) rfl fr_95_14 rfl ?_
  refine L_s (pc' := 167) rfl rfl ?_
  refine L_aa (pc' := 168) rfl sh_109 (by decide) (by decide) rfl rfl ?_
  refine L_cv (pc' := 171) (as := [.ref 18, .ref 111]) (rest := []) rfl rfl (e_x_copyInts_c52 (by omega) _) rfl fun g17 => ?_
  refine L_ii (pc' := 174) (L' := [some (.ref 95), some (.ref 2), some (.int 2)]) rfl rfl q1_1 (by decide : (1 : Int32) + 1 = 2) rfl rfl ?_
  refine L_s (pc' := 136) rfl rfl ?_
  refine L_s (pc' := 137) rfl rfl ?_
  refine L_ic (pc' := 138) rfl q1_2 rfl ?_
  refine L_bt (c := (2 : Int32) ≤ 2) (t := 177) (n := 141) rfl rfl (by decide) ?_
  refine L_s (pc' := 178) rfl rfl ?_
  refine L_gf (pc' := 181) rfl fr_2_15 rfl ?_
  refine L_s (pc' := 182) rfl rfl ?_
  refine L_gf (pc' := 185) rfl fr_95_15 rfl ?_
  refine L_cv (pc' := 188) (as := [.ref 19, .ref 112]) (rest := []) rfl rfl (e_x_copyInts_c53 (by omega) _) rfl fun g18 => ?_
  refine L_s (pc' := 189) rfl rfl ?_
  refine L_gf (pc' := 192) rfl fr_2_16 rfl ?_
  refine L_s (pc' := 193) rfl rfl ?_
  refine L_gf (pc' := 196) rfl fr_95_16 rfl ?_
  refine L_cv (pc' := 199) (as := [.ref 20, .ref 113]) (rest := []) rfl rfl (e_x_copyInts_c54 (by omega) _) rfl fun g19 => ?_
  refine L_s (pc' := 200) rfl rfl ?_
  refine L_gf (pc' := 203) rfl fr_2_17 rfl ?_
  refine L_s (pc' := 204) rfl rfl ?_
  refine L_gf (pc' := 207) rfl fr_95_17 rfl ?_
  refine L_cv (pc' := 210) (as := [.ref 21, .ref 114]) (rest := []) rfl rfl (e_x_copyInts_c55 (by omega) _) rfl fun g20 => ?_
  exact L_ret rfl rfl rfl
def x_copyInts_c56  (g : Sg) : Option (Sg) :=
  lt1 (cp2 g 23 0 116 0 (Int32.toNatClampNeg 8)) (fun g1 => (some g1))
theorem e_x_copyInts_c56 {X : Xx} {d : Nat} (hd : 1 ≤ d)  (g : Sg) : ∀ r, x_copyInts_c56  g = some r → EvM zft mtl X d 145 [.ref 23, .ref 116] (SHF, g) ((fun r : Sg => ((none, (SHF, r)) : Out)) r) := by
  obtain ⟨d, rfl⟩ : ∃ d0, d = d0 + 1 := ⟨d - 1, by omega⟩
  have hd : 0 ≤ d := by omega
  refine E_in (f := (fun r : Sg => ((none, (SHF, r)) : Out))) rfl (Nat.le_of_ble_eq_true rfl) ?_
  unfold x_copyInts_c56
  change Lt X d none k_145 _ 0 [some (.ref 23), some (.ref 116)] [] g _
  refine L_s (pc' := 1) rfl rfl ?_
  refine L_ic (pc' := 2) rfl q1_0 rfl ?_
  refine L_s (pc' := 3) rfl rfl ?_
  refine L_ic (pc' := 4) rfl q1_0 rfl ?_
  refine L_s (pc' := 5) rfl rfl ?_
  refine L_s (pc' := 6) (st' := [.int 8, .int 0, .ref 116, .int 0, .ref 23]) rfl rfl ?_
  refine L_s (pc' := 7) rfl rfl ?_
  refine L_s (pc' := 8) (st' := [.int 8, .int 8, .int 0, .ref 116, .int 0, .ref 23]) rfl rfl ?_
  refine L_s (pc' := 11) rfl rfl ?_
  refine L_e (b := 8) (by decide) ?_
  refine L_cp (pc' := 14) rfl sh_23 sh_116 (by decide) (by decide) (by decide) (by decide) rfl rfl ?_
  refine L_let fun g1 _ => ?_
  exact L_ret rfl rfl rfl
def x_copyInts_c57  (g : Sg) : Option (Sg) :=
  lt1 (cp2 g 24 0 117 0 (Int32.toNatClampNeg 120)) (fun g1 => (some g1))
theorem e_x_copyInts_c57 {X : Xx} {d : Nat} (hd : 1 ≤ d)  (g : Sg) : ∀ r, x_copyInts_c57  g = some r → EvM zft mtl X d 145 [.ref 24, .ref 117] (SHF, g) ((fun r : Sg => ((none, (SHF, r)) : Out)) r) := by
  obtain ⟨d, rfl⟩ : ∃ d0, d = d0 + 1 := ⟨d - 1, by omega⟩
  have hd : 0 ≤ d := by omega
  refine E_in (f := (fun r : Sg => ((none, (SHF, r)) : Out))) rfl (Nat.le_of_ble_eq_true rfl) ?_
  unfold x_copyInts_c57
  change Lt X d none k_145 _ 0 [some (.ref 24), some (.ref 117)] [] g _
  refine L_s (pc' := 1) rfl rfl ?_
  refine L_ic (pc' := 2) rfl q1_0 rfl ?_
  refine L_s (pc' := 3) rfl rfl ?_
  refine L_ic (pc' := 4) rfl q1_0 rfl ?_
  refine L_s (pc' := 5) rfl rfl ?_
  refine L_s (pc' := 6) (st' := [.int 120, .int 0, .ref 117, .int 0, .ref 24]) rfl rfl ?_
  refine L_s (pc' := 7) rfl rfl ?_
  refine L_s (pc' := 8) (st' := [.int 120, .int 120, .int 0, .ref 117, .int 0, .ref 24]) rfl rfl ?_
  refine L_s (pc' := 11) rfl rfl ?_
  refine L_e (b := 120) (by decide) ?_
  refine L_cp (pc' := 14) rfl sh_24 sh_117 (by decide) (by decide) (by decide) (by decide) rfl rfl ?_
  refine L_let fun g1 _ => ?_
  exact L_ret rfl rfl rfl
def x_copyInts_c58  (g : Sg) : Option (Sg) :=
  lt1 (cp2 g 25 0 118 0 (Int32.toNatClampNeg 120)) (fun g1 => (some g1))
theorem e_x_copyInts_c58 {X : Xx} {d : Nat} (hd : 1 ≤ d)  (g : Sg) : ∀ r, x_copyInts_c58  g = some r → EvM zft mtl X d 145 [.ref 25, .ref 118] (SHF, g) ((fun r : Sg => ((none, (SHF, r)) : Out)) r) := by
  obtain ⟨d, rfl⟩ : ∃ d0, d = d0 + 1 := ⟨d - 1, by omega⟩
  have hd : 0 ≤ d := by omega
  refine E_in (f := (fun r : Sg => ((none, (SHF, r)) : Out))) rfl (Nat.le_of_ble_eq_true rfl) ?_
  unfold x_copyInts_c58
  change Lt X d none k_145 _ 0 [some (.ref 25), some (.ref 118)] [] g _
  refine L_s (pc' := 1) rfl rfl ?_
  refine L_ic (pc' := 2) rfl q1_0 rfl ?_
  refine L_s (pc' := 3) rfl rfl ?_
  refine L_ic (pc' := 4) rfl q1_0 rfl ?_
  refine L_s (pc' := 5) rfl rfl ?_
  refine L_s (pc' := 6) (st' := [.int 120, .int 0, .ref 118, .int 0, .ref 25]) rfl rfl ?_
  refine L_s (pc' := 7) rfl rfl ?_
  refine L_s (pc' := 8) (st' := [.int 120, .int 120, .int 0, .ref 118, .int 0, .ref 25]) rfl rfl ?_
  refine L_s (pc' := 11) rfl rfl ?_
  refine L_e (b := 120) (by decide) ?_
  refine L_cp (pc' := 14) rfl sh_25 sh_118 (by decide) (by decide) (by decide) (by decide) rfl rfl ?_
  refine L_let fun g1 _ => ?_
  exact L_ret rfl rfl rfl
def x_copyInts_c59  (g : Sg) : Option (Sg) :=
  lt1 (cp2 g 26 0 119 0 (Int32.toNatClampNeg 120)) (fun g1 => (some g1))
theorem e_x_copyInts_c59 {X : Xx} {d : Nat} (hd : 1 ≤ d)  (g : Sg) : ∀ r, x_copyInts_c59  g = some r → EvM zft mtl X d 145 [.ref 26, .ref 119] (SHF, g) ((fun r : Sg => ((none, (SHF, r)) : Out)) r) := by
  obtain ⟨d, rfl⟩ : ∃ d0, d = d0 + 1 := ⟨d - 1, by omega⟩
  have hd : 0 ≤ d := by omega
  refine E_in (f := (fun r : Sg => ((none, (SHF, r)) : Out))) rfl (Nat.le_of_ble_eq_true rfl) ?_
  unfold x_copyInts_c59
  change Lt X d none k_145 _ 0 [some (.ref 26), some (.ref 119)] [] g _
  refine L_s (pc' := 1) rfl rfl ?_
  refine L_ic (pc' := 2) rfl q1_0 rfl ?_
  refine L_s (pc' := 3) rfl rfl ?_
  refine L_ic (pc' := 4) rfl q1_0 rfl ?_
  refine L_s (pc' := 5) rfl rfl ?_
  refine L_s (pc' := 6) (st' := [.int 120, .int 0, .ref 119, .int 0, .ref 26]) rfl rfl ?_
  refine L_s (pc' := 7) rfl rfl ?_
  refine L_s (pc' := 8) (st' := [.int 120, .int 120, .int 0, .ref 119, .int 0, .ref 26]) rfl rfl ?_
  refine L_s (pc' := 11) rfl rfl ?_
  refine L_e (b := 120) (by decide) ?_
  refine L_cp (pc' := 14) rfl sh_26 sh_119 (by decide) (by decide) (by decide) (by decide) rfl rfl ?_
  refine L_let fun g1 _ => ?_
  exact L_ret rfl rfl rfl
def x_copyInts_c60  (g : Sg) : Option (Sg) :=
  lt1 (cp2 g 27 0 120 0 (Int32.toNatClampNeg 120)) (fun g1 => (some g1))
theorem e_x_copyInts_c60 {X : Xx} {d : Nat} (hd : 1 ≤ d)  (g : Sg) : ∀ r, x_copyInts_c60  g = some r → EvM zft mtl X d 145 [.ref 27, .ref 120] (SHF, g) ((fun r : Sg => ((none, (SHF, r)) : Out)) r) := by
  obtain ⟨d, rfl⟩ : ∃ d0, d = d0 + 1 := ⟨d - 1, by omega⟩
  have hd : 0 ≤ d := by omega
  refine E_in (f := (fun r : Sg => ((none, (SHF, r)) : Out))) rfl (Nat.le_of_ble_eq_true rfl) ?_
  unfold x_copyInts_c60
  change Lt X d none k_145 _ 0 [some (.ref 27), some (.ref 120)] [] g _
  refine L_s (pc' := 1) rfl rfl ?_
  refine L_ic (pc' := 2) rfl q1_0 rfl ?_
  refine L_s (pc' := 3) rfl rfl ?_
  refine L_ic (pc' := 4) rfl q1_0 rfl ?_
  refine L_s (pc' := 5) rfl rfl ?_
  refine L_s (pc' := 6) (st' := [.int 120, .int 0, .ref 120, .int 0, .ref 27]) rfl rfl ?_
  refine L_s (pc' := 7) rfl rfl ?_
  refine L_s (pc' := 8) (st' := [.int 120, .int 120, .int 0, .ref 120, .int 0, .ref 27]) rfl rfl ?_
  refine L_s (pc' := 11) rfl rfl ?_
  refine L_e (b := 120) (by decide) ?_
  refine L_cp (pc' := 14) rfl sh_27 sh_120 (by decide) (by decide) (by decide) (by decide) rfl rfl ?_
  refine L_let fun g1 _ => ?_
  exact L_ret rfl rfl rfl
def x_copyInts_c61  (g : Sg) : Option (Sg) :=
  lt1 (cp2 g 28 0 121 0 (Int32.toNatClampNeg 120)) (fun g1 => (some g1))
theorem e_x_copyInts_c61 {X : Xx} {d : Nat} (hd : 1 ≤ d)  (g : Sg) : ∀ r, x_copyInts_c61  g = some r → EvM zft mtl X d 145 [.ref 28, .ref 121] (SHF, g) ((fun r : Sg => ((none, (SHF, r)) : Out)) r) := by
  obtain ⟨d, rfl⟩ : ∃ d0, d = d0 + 1 := ⟨d - 1, by omega⟩
  have hd : 0 ≤ d := by omega
  refine E_in (f := (fun r : Sg => ((none, (SHF, r)) : Out))) rfl (Nat.le_of_ble_eq_true rfl) ?_
  unfold x_copyInts_c61
  change Lt X d none k_145 _ 0 [some (.ref 28), some (.ref 121)] [] g _
  refine L_s (pc' := 1) rfl rfl ?_
  refine L_ic (pc' := 2) rfl q1_0 rfl ?_
  refine L_s (pc' := 3) rfl rfl ?_
  refine L_ic (pc' := 4) rfl q1_0 rfl ?_
  refine L_s (pc' := 5) rfl rfl ?_
  refine L_s (pc' := 6) (st' := [.int 120, .int 0, .ref 121, .int 0, .ref 28]) rfl rfl ?_
  refine L_s (pc' := 7) rfl rfl ?_
  refine L_s (pc' := 8) (st' := [.int 120, .int 120, .int 0, .ref 121, .int 0, .ref 28]) rfl rfl ?_
  refine L_s (pc' := 11) rfl rfl ?_
  refine L_e (b := 120) (by decide) ?_
  refine L_cp (pc' := 14) rfl sh_28 sh_121 (by decide) (by decide) (by decide) (by decide) rfl rfl ?_
  refine L_let fun g1 _ => ?_
  exact L_ret rfl rfl rfl
def x_copyInts_c62  (g : Sg) : Option (Sg) :=
  lt1 (cp2 g 29 0 122 0 (Int32.toNatClampNeg 120)) (fun g1 => (some g1))
theorem e_x_copyInts_c62 {X : Xx} {d : Nat} (hd : 1 ≤ d)  (g : Sg) : ∀ r, x_copyInts_c62  g = some r → EvM zft mtl X d 145 [.ref 29, .ref 122] (SHF, g) ((fun r : Sg => ((none, (SHF, r)) : Out)) r) := by
  obtain ⟨d, rfl⟩ : ∃ d0, d = d0 + 1 := ⟨d - 1, by omega⟩
  have hd : 0 ≤ d := by omega
  refine E_in (f := (fun r : Sg => ((none, (SHF, r)) : Out))) rfl (Nat.le_of_ble_eq_true rfl) ?_
  unfold x_copyInts_c62
  change Lt X d none k_145 _ 0 [some (.ref 29), some (.ref 122)] [] g _
  refine L_s (pc' := 1) rfl rfl ?_
  refine L_ic (pc' := 2) rfl q1_0 rfl ?_
  refine L_s (pc' := 3) rfl rfl ?_
  refine L_ic (pc' := 4) rfl q1_0 rfl ?_
  refine L_s (pc' := 5) rfl rfl ?_
  refine L_s (pc' := 6) (st' := [.int 120, .int 0, .ref 122, .int 0, .ref 29]) rfl rfl ?_
  refine L_s (pc' := 7) rfl rfl ?_
  refine L_s (pc' := 8) (st' := [.int 120, .int 120, .int 0, .ref 122, .int 0, .ref 29]) rfl rfl ?_
  refine L_s (pc' := 11) rfl rfl ?_
  refine L_e (b := 120) (by decide) ?_
  refine L_cp (pc' := 14) rfl sh_29 sh_122 (by decide) (by decide) (by decide) (by decide) rfl rfl ?_
  refine L_let fun g1 _ => ?_
  exact L_ret rfl rfl rfl
def x_copyBytes_c2  (g : Sg) : Option (Sg) :=
  lt1 (cp2 g 30 0 123 0 (Int32.toNatClampNeg 2400)) (fun g1 => (some g1))
theorem e_x_copyBytes_c2 {X : Xx} {d : Nat} (hd : 1 ≤ d)  (g : Sg) : ∀ r, x_copyBytes_c2  g = some r → EvM zft mtl X d 146 [.ref 30, .ref 123] (SHF, g) ((fun r : Sg => ((none, (SHF, r)) : Out)) r) := by
  obtain ⟨d, rfl⟩ : ∃ d0, d = d0 + 1 := ⟨d - 1, by omega⟩
  have hd : 0 ≤ d := by omega
  refine E_in (f := (fun r : Sg => ((none, (SHF, r)) : Out))) rfl (Nat.le_of_ble_eq_true rfl) ?_
  unfold x_copyBytes_c2
  change Lt X d none k_146 _ 0 [some (.ref 30), some (.ref 123)] [] g _
  refine L_s (pc' := 1) rfl rfl ?_
  refine L_ic (pc' := 2) rfl q1_0 rfl ?_
  refine L_s (pc' := 3) rfl rfl ?_
  refine L_ic (pc' := 4) rfl q1_0 rfl ?_
  refine L_s (pc' := 5) rfl rfl ?_
  refine L_s (pc' := 6) (st' := [.int 2400, .int 0, .ref 123, .int 0, .ref 30]) rfl rfl ?_
  refine L_s (pc' := 7) rfl rfl ?_
  refine L_s (pc' := 8) (st' := [.int 2400, .int 2400, .int 0, .ref 123, .int 0, .ref 30]) rfl rfl ?_
  refine L_s (pc' := 11) rfl rfl ?_
  refine L_e (b := 2400) (by decide) ?_
  refine L_cp (pc' := 14) rfl sh_30 sh_123 (by decide) (by decide) (by decide) (by decide) rfl rfl ?_
  refine L_let fun g1 _ => ?_
  exact L_ret rfl rfl rfl
def rights_copyFrom_c1  (g : Sg) : Option (Sg) :=
  Option.bind (x_copyInts_c56 g) (fun g1 => lt1 (up2 g1 115 1 (g1 22 1)) (fun g2 => Option.bind (x_copyInts_c57 g2) (fun g3 => Option.bind (x_copyInts_c58 g3) (fun g4 => Option.bind (x_copyInts_c59 g4) (fun g5 => Option.bind (x_copyInts_c60 g5) (fun g6 => Option.bind (x_copyInts_c61 g6) (fun g7 => Option.bind (x_copyInts_c62 g7) (fun g8 => lt1 (up2 g8 115 8 (g8 22 8)) (fun g9 => Option.bind (x_copyBytes_c2 g9) (fun g10 => (some g10)))))))))))
theorem e_rights_copyFrom_c1 {X : Xx} {d : Nat} (hd : 2 ≤ d)  (g : Sg) : ∀ r, rights_copyFrom_c1  g = some r → EvM zft mtl X d 77 [.ref 115, .ref 22] (SHF, g) ((fun r : Sg => ((none, (SHF, r)) : Out)) r) := by
  obtain ⟨d, rfl⟩ : ∃ d0, d = d0 + 1 := ⟨d - 1, by omega⟩
  have hd : 1 ≤ d := by omega
  refine E_in (f := (fun r : Sg => ((none, (SHF, r)) : Out))) rfl (Nat.le_of_ble_eq_true rfl) ?_
  unfold rights_copyFrom_c1
  change Lt X d none k_77 _ 0 [some (.ref 115), some (.ref 22)] [] g _
  refine L_s (pc' := 1) rfl rfl ?_
  refine L_gf (pc' := 4) rfl fr_22_0 rfl ?_
  refine L_s (pc' := 5) rfl rfl ?_
  refine L_gf (pc' := 8) rfl fr_115_0 rfl ?_
  refine L_cv (pc' := 11) (as := [.ref 23, .ref 116]) (rest := []) rfl rfl (e_x_copyInts_c56 (by omega) _) rfl fun g1 => ?_
  refine L_s (pc' := 12) rfl rfl ?_
  refine L_s (pc' := 13) rfl rfl ?_
  refine L_gf (pc' := 16) rfl fi_22_1 rfl ?_
  refine L_pf (pc' := 19) rfl sh_115 (by decide) rfl rfl ?_
  refine L_let fun g2 _ => ?_
  refine L_s (pc' := 20) rfl rfl ?_
  refine L_gf (pc' := 23) rfl fr_22_2 rfl ?_
  refine L_s (pc' := 24) rfl rfl ?_
  refine L_gf (pc' := 27) rfl fr_115_2 rfl ?_
  refine L_cv (pc' := 30) (as := [.ref 24, .ref 117]) (rest := []) rfl rfl (e_x_copyInts_c57 (by omega) _) rfl fun g3 => ?_
  refine L_s (pc' := 31) rfl rfl ?_
  refine L_gf (pc' := 34) rfl fr_22_3 rfl ?_
  refine L_s (pc' := 35) rfl rfl ?_
  refine L_gf (pc' := 38) rfl fr_115_3 rfl ?_
  refine L_cv (pc' := 41) (as := [.ref 25, .ref 118]) (rest := []) rfl rfl (e_x_copyInts_c58 (by omega) _) rfl fun g4 => ?_
  refine L_s (pc' := 42) rfl rfl ?_
  refine L_gf (pc' := 45) rfl fr_22_4 rfl ?_
  refine L_s (pc' := 46) rfl rfl ?_
  refine L_gf (pc' := 49) rfl fr_115_4 rfl ?_
  refine L_cv (pc' := 52) (as := [.ref 26, .ref 119]) (rest := []) rfl rfl (e_x_copyInts_c59 (by omega) _) rfl fun g5 => ?_
  refine L_s (pc' := 53) rfl rfl ?_
  refine L_gf (pc' := 56) rfl fr_22_5 rfl ?_
  refine L_s (pc' := 57) rfl rfl ?_
  refine L_gf (pc' := 60) rfl fr_115_5 rfl ?_
  refine L_cv (pc' := 63) (as := [.ref 27, .ref 120]) (rest := []) rfl rfl (e_x_copyInts_c60 (by omega) _) rfl fun g6 => ?_
  refine L_s (pc' := 64) rfl rfl ?_
  refine L_gf (pc' := 67) rfl fr_22_6 rfl ?_
  refine L_s (pc' := 68) rfl rfl ?_
  refine L_gf (pc' := 71) rfl fr_115_6 rfl ?_
  refine L_cv (pc' := 74) (as := [.ref 28, .ref 121]) (rest := []) rfl rfl (e_x_copyInts_c61 (by omega) _) rfl fun g7 => ?_
  refine L_s (pc' := 75) rfl rfl ?_
  refine L_gf (pc' := 78) rfl fr_22_7 rfl ?_
  refine L_s (pc' := 79) rfl rfl ?_
  refine L_gf (pc' := 82) rfl fr_115_7 rfl ?_
  refine L_cv (pc' := 85) (as := [.ref 29, .ref 122]) (rest := []) rfl rfl (e_x_copyInts_c62 (by omega) _) rfl fun g8 => ?_
  refine L_s (pc' := 86) rfl rfl ?_
  refine L_s (pc' := 87) rfl rfl ?_
  refine L_gf (pc' := 90) rfl fi_22_8 rfl ?_
  refine L_pf (pc' := 93) rfl sh_115 (by decide) rfl rfl ?_
  refine L_let fun g9 _ => ?_
  refine L_s (pc' := 94) rfl rfl ?_
  refine L_gf (pc' := 97) rfl fr_22_9 rfl ?_
  refine L_s (pc' := 98) rfl rfl ?_
  refine L_gf (pc' := 101) rfl fr_115_9 rfl ?_
  refine L_cv (pc' := 104) (as := [.ref 30, .ref 123]) (rest := []) rfl rfl (e_x_copyBytes_c2 (by omega) _) rfl fun g10 => ?_
  exact L_ret rfl rfl rfl
def x_copyBytes_c3  (g : Sg) : Option (Sg) :=
  lt1 (cp2 g 32 0 125 0 (Int32.toNatClampNeg 500)) (fun g1 => (some g1))
theorem e_x_copyBytes_c3 {X : Xx} {d : Nat} (hd : 1 ≤ d)  (g : Sg) : ∀ r, x_copyBytes_c3  g = some r → EvM zft mtl X d 146 [.ref 32, .ref 125] (SHF, g) ((fun r : Sg => ((none, (SHF, r)) : Out)) r) := by
  obtain ⟨d, rfl⟩ : ∃ d0, d = d0 + 1 := ⟨d - 1, by omega⟩
  have hd : 0 ≤ d := by omega
  refine E_in (f := (fun r : Sg => ((none, (SHF, r)) : Out))) rfl (Nat.le_of_ble_eq_true rfl) ?_
  unfold x_copyBytes_c3
  change Lt X d none k_146 _ 0 [some (.ref 32), some (.ref 125)] [] g _
  refine L_s (pc' := 1) rfl rfl ?_
  refine L_ic (pc' := 2) rfl q1_0 rfl ?_
  refine L_s (pc' := 3) rfl rfl ?_
  refine L_ic (pc' := 4) rfl q1_0 rfl ?_
  refine L_s (pc' := 5) rfl rfl ?_
  refine L_s (pc' := 6) (st' := [.int 500, .int 0, .ref 125, .int 0, .ref 32]) rfl rfl ?_
  refine L_s (pc' := 7) rfl rfl ?_
  refine L_s (pc' := 8) (st' := [.int 500, .int 500, .int 0, .ref 125, .int 0, .ref 32]) rfl rfl ?_
  refine L_s (pc' := 11) rfl rfl ?_
  refine L_e (b := 500) (by decide) ?_
  refine L_cp (pc' := 14) rfl sh_32 sh_125 (by decide) (by decide) (by decide) (by decide) rfl rfl ?_
  refine L_let fun g1 _ => ?_
  exact L_ret rfl rfl rfl
def x_copyInts_c63  (g : Sg) : Option (Sg) :=
  lt1 (cp2 g 34 0 127 0 (Int32.toNatClampNeg 16)) (fun g1 => (some g1))
theorem e_x_copyInts_c63 {X : Xx} {d : Nat} (hd : 1 ≤ d)  (g : Sg) : ∀ r, x_copyInts_c63  g = some r → EvM zft mtl X d 145 [.ref 34, .ref 127] (SHF, g) ((fun r : Sg => ((none, (SHF, r)) : Out)) r) := by
  obtain ⟨d, rfl⟩ : ∃ d0, d = d0 + 1 := ⟨d - 1, by omega⟩
  have hd : 0 ≤ d := by omega
  refine E_in (f := (fun r : Sg => ((none, (SHF, r)) : Out))) rfl (Nat.le_of_ble_eq_true rfl) ?_
  unfold x_copyInts_c63
  change Lt X d none k_145 _ 0 [some (.ref 34), some (.ref 127)] [] g _
  refine L_s (pc' := 1) rfl rfl ?_
  refine L_ic (pc' := 2) rfl q1_0 rfl ?_
  refine L_s (pc' := 3) rfl rfl ?_
  refine L_ic (pc' := 4) rfl q1_0 rfl ?_
  refine L_s (pc' := 5) rfl rfl ?_
  refine L_s (pc' := 6) (st' := [.int 16, .int 0, .ref 127, .int 0, .ref 34]) rfl rfl ?_
  refine L_s (pc' := 7) rfl rfl ?_
  refine L_s (pc' := 8) (st' := [.int 16, .int 16, .int 0, .ref 127, .int 0, .ref 34]) rfl rfl ?_
  refine L_s (pc' := 11) rfl rfl ?_
  refine L_e (b := 16) (by decide) ?_
  refine L_cp (pc' := 14) rfl sh_34 sh_127 (by decide) (by decide) (by decide) (by decide) rfl rfl ?_
  refine L_let fun g1 _ => ?_
  exact L_ret rfl rfl rfl
def x_copyInts_c64  (g : Sg) : Option (Sg) :=
  lt1 (cp2 g 35 0 128 0 (Int32.toNatClampNeg 16)) (fun g1 => (some g1))
theorem e_x_copyInts_c64 {X : Xx} {d : Nat} (hd : 1 ≤ d)  (g : Sg) : ∀ r, x_copyInts_c64  g = some r → EvM zft mtl X d 145 [.ref 35, .ref 128] (SHF, g) ((fun r : Sg => ((none, (SHF, r)) : Out)) r) := by
  obtain ⟨d, rfl⟩ : ∃ d0, d = d0 + 1 := ⟨d - 1, by omega⟩
  have hd : 0 ≤ d := by omega
  refine E_in (f := (fun r : Sg => ((none, (SHF, r)) : Out))) rfl (Nat.le_of_ble_eq_true rfl) ?_
  unfold x_copyInts_c64
  change Lt X d none k_145 _ 0 [some (.ref 35), some (.ref 128)] [] g _
  refine L_s (pc' := 1) rfl rfl ?_
  refine L_ic (pc' := 2) rfl q1_0 rfl ?_
  refine L_s (pc' := 3) rfl rfl ?_
  refine L_ic (pc' := 4) rfl q1_0 rfl ?_
  refine L_s (pc' := 5) rfl rfl ?_
  refine L_s (pc' := 6) (st' := [.int 16, .int 0, .ref 128, .int 0, .ref 35]) rfl rfl ?_
  refine L_s (pc' := 7) rfl rfl ?_
  refine L_s (pc' := 8) (st' := [.int 16, .int 16, .int 0, .ref 128, .int 0, .ref 35]) rfl rfl ?_
  refine L_s (pc' := 11) rfl rfl ?_
  refine L_e (b := 16) (by decide) ?_
  refine L_cp (pc' := 14) rfl sh_35 sh_128 (by decide) (by decide) (by decide) (by decide) rfl rfl ?_
  refine L_let fun g1 _ => ?_
  exact L_ret rfl rfl rfl
def x_copyInts_c65  (g : Sg) : Option (Sg) :=
  lt1 (cp2 g 36 0 129 0 (Int32.toNatClampNeg 16)) (fun g1 => (some g1))
theorem e_x_copyInts_c65 {X : Xx} {d : Nat} (hd : 1 ≤ d)  (g : Sg) : ∀ r, x_copyInts_c65  g = some r → EvM zft mtl X d 145 [.ref 36, .ref 129] (SHF, g) ((fun r : Sg => ((none, (SHF, r)) : Out)) r) := by
  obtain ⟨d, rfl⟩ : ∃ d0, d = d0 + 1 := ⟨d - 1, by omega⟩
  have hd : 0 ≤ d := by omega
  refine E_in (f := (fun r : Sg => ((none, (SHF, r)) : Out))) rfl (Nat.le_of_ble_eq_true rfl) ?_
  unfold x_copyInts_c65
  change Lt X d none k_145 _ 0 [some (.ref 36), some (.ref 129)] [] g _
  refine L_s (pc' := 1) rfl rfl ?_
  refine L_ic (pc' := 2) rfl q1_0 rfl ?_
  refine L_s (pc' := 3) rfl rfl ?_
  refine L_ic (pc' := 4) rfl q1_0 rfl ?_
  refine L_s (pc' := 5) rfl rfl ?_
  refine L_s (pc' := 6) (st' := [.int 16, .int 0, .ref 129, .int 0, .ref 36]) rfl rfl ?_
  refine L_s (pc' := 7) rfl rfl ?_
  refine L_s (pc' := 8) (st' := [.int 16, .int 16, .int 0, .ref 129, .int 0, .ref 36]) rfl rfl ?_
  refine L_s (pc' := 11) rfl rfl ?_
  refine L_e (b := 16) (by decide) ?_
  refine L_cp (pc' := 14) rfl sh_36 sh_129 (by decide) (by decide) (by decide) (by decide) rfl rfl ?_
  refine L_let fun g1 _ => ?_
  exact L_ret rfl rfl rfl
def x_copyFlags_c5  (g : Sg) : Option (Sg) :=
  lt1 (cp2 g 37 0 130 0 (Int32.toNatClampNeg 64)) (fun g1 => (some g1))
theorem e_x_copyFlags_c5 {X : Xx} {d : Nat} (hd : 1 ≤ d)  (g : Sg) : ∀ r, x_copyFlags_c5  g = some r → EvM zft mtl X d 147 [.ref 37, .ref 130] (SHF, g) ((fun r : Sg => ((none, (SHF, r)) : Out)) r) := by
  obtain ⟨d, rfl⟩ : ∃ d0, d = d0 + 1 := ⟨d - 1, by omega⟩
  have hd : 0 ≤ d := by omega
  refine E_in (f := (fun r : Sg => ((none, (SHF, r)) : Out))) rfl (Nat.le_of_ble_eq_true rfl) ?_
  unfold x_copyFlags_c5
  change Lt X d none k_147 _ 0 [some (.ref 37), some (.ref 130)] [] g _
  refine L_s (pc' := 1) rfl rfl ?_
  refine L_ic (pc' := 2) rfl q1_0 rfl ?_
  refine L_s (pc' := 3) rfl rfl ?_
  refine L_ic (pc' := 4) rfl q1_0 rfl ?_
  refine L_s (pc' := 5) rfl rfl ?_
  refine L_s (pc' := 6) (st' := [.int 64, .int 0, .ref 130, .int 0, .ref 37]) rfl rfl ?_
  refine L_s (pc' := 7) rfl rfl ?_
  refine L_s (pc' := 8) (st' := [.int 64, .int 64, .int 0, .ref 130, .int 0, .ref 37]) rfl rfl ?_
  refine L_s (pc' := 11) rfl rfl ?_
  refine L_e (b := 64) (by decide) ?_
  refine L_cp (pc' := 14) rfl sh_37 sh_130 (by decide) (by decide) (by decide) (by decide) rfl rfl ?_
  refine L_let fun g1 _ => ?_
  exact L_ret rfl rfl rfl
def x_copyInts_c66  (g : Sg) : Option (Sg) :=
  lt1 (cp2 g 38 0 131 0 (Int32.toNatClampNeg 64)) (fun g1 => (some g1))
theorem e_x_copyInts_c66 {X : Xx} {d : Nat} (hd : 1 ≤ d)  (g : Sg) : ∀ r, x_copyInts_c66  g = some r → EvM zft mtl X d 145 [.ref 38, .ref 131] (SHF, g) ((fun r : Sg => ((none, (SHF, r)) : Out)) r) := by
  obtain ⟨d, rfl⟩ : ∃ d0, d = d0 + 1 := ⟨d - 1, by omega⟩
  have hd : 0 ≤ d := by omega
  refine E_in (f := (fun r : Sg => ((none, (SHF, r)) : Out))) rfl (Nat.le_of_ble_eq_true rfl) ?_
  unfold x_copyInts_c66
  change Lt X d none k_145 _ 0 [some (.ref 38), some (.ref 131)] [] g _
  refine L_s (pc' := 1) rfl rfl ?_
  refine L_ic (pc' := 2) rfl q1_0 rfl ?_
  refine L_s (pc' := 3) rfl rfl ?_
  refine L_ic (pc' := 4) rfl q1_0 rfl ?_
  refine L_s (pc' := 5) rfl rfl ?_
  refine L_s (pc' := 6) (st' := [.int 64, .int 0, .ref 131, .int 0, .ref 38]) rfl rfl ?_
  refine L_s (pc' := 7) rfl rfl ?_
  refine L_s (pc' := 8) (st' := [.int 64, .int 64, .int 0, .ref 131, .int 0, .ref 38]) rfl rfl ?_
  refine L_s (pc' := 11) rfl rfl ?_
  refine L_e (b := 64) (by decide) ?_
  refine L_cp (pc' := 14) rfl sh_38 sh_131 (by decide) (by decide) (by decide) (by decide) rfl rfl ?_
  refine L_let fun g1 _ => ?_
  exact L_ret rfl rfl rfl
def x_copyInts_c67  (g : Sg) : Option (Sg) :=
  lt1 (cp2 g 39 0 132 0 (Int32.toNatClampNeg 64)) (fun g1 => (some g1))
theorem e_x_copyInts_c67 {X : Xx} {d : Nat} (hd : 1 ≤ d)  (g : Sg) : ∀ r, x_copyInts_c67  g = some r → EvM zft mtl X d 145 [.ref 39, .ref 132] (SHF, g) ((fun r : Sg => ((none, (SHF, r)) : Out)) r) := by
  obtain ⟨d, rfl⟩ : ∃ d0, d = d0 + 1 := ⟨d - 1, by omega⟩
  have hd : 0 ≤ d := by omega
  refine E_in (f := (fun r : Sg => ((none, (SHF, r)) : Out))) rfl (Nat.le_of_ble_eq_true rfl) ?_
  unfold x_copyInts_c67
  change Lt X d none k_145 _ 0 [some (.ref 39), some (.ref 132)] [] g _
  refine L_s (pc' := 1) rfl rfl ?_
  refine L_ic (pc' := 2) rfl q1_0 rfl ?_
  refine L_s (pc' := 3) rfl rfl ?_
  refine L_ic (pc' := 4) rfl q1_0 rfl ?_
  refine L_s (pc' := 5) rfl rfl ?_
  refine L_s (pc' := 6) (st' := [.int 64, .int 0, .ref 132, .int 0, .ref 39]) rfl rfl ?_
  refine L_s (pc' := 7) rfl rfl ?_
  refine L_s (pc' := 8) (st' := [.int 64, .int 64, .int 0, .ref 132, .int 0, .ref 39]) rfl rfl ?_
  refine L_s (pc' := 11) rfl rfl ?_
  refine L_e (b := 64) (by decide) ?_
  refine L_cp (pc' := 14) rfl sh_39 sh_132 (by decide) (by decide) (by decide) (by decide) rfl rfl ?_
  refine L_let fun g1 _ => ?_
  exact L_ret rfl rfl rfl
def x_copyInts_c68  (g : Sg) : Option (Sg) :=
  lt1 (cp2 g 40 0 133 0 (Int32.toNatClampNeg 64)) (fun g1 => (some g1))
theorem e_x_copyInts_c68 {X : Xx} {d : Nat} (hd : 1 ≤ d)  (g : Sg) : ∀ r, x_copyInts_c68  g = some r → EvM zft mtl X d 145 [.ref 40, .ref 133] (SHF, g) ((fun r : Sg => ((none, (SHF, r)) : Out)) r) := by
  obtain ⟨d, rfl⟩ : ∃ d0, d = d0 + 1 := ⟨d - 1, by omega⟩
  have hd : 0 ≤ d := by omega
  refine E_in (f := (fun r : Sg => ((none, (SHF, r)) : Out))) rfl (Nat.le_of_ble_eq_true rfl) ?_
  unfold x_copyInts_c68
  change Lt X d none k_145 _ 0 [some (.ref 40), some (.ref 133)] [] g _
  refine L_s (pc' := 1) rfl rfl ?_
  refine L_ic (pc' := 2) rfl q1_0 rfl ?_
  refine L_s (pc' := 3) rfl rfl ?_
  refine L_ic (pc' := 4) rfl q1_0 rfl ?_
  refine L_s (pc' := 5) rfl rfl ?_
  refine L_s (pc' := 6) (st' := [.int 64, .int 0, .ref 133, .int 0, .ref 40]) rfl rfl ?_
  refine L_s (pc' := 7) rfl rfl ?_
  refine L_s (pc' := 8) (st' := [.int 64, .int 64, .int 0, .ref 133, .int 0, .ref 40]) rfl rfl ?_
  refine L_s (pc' := 11) rfl rfl ?_
  refine L_e (b := 64) (by decide) ?_
  refine L_cp (pc' := 14) rfl sh_40 sh_133 (by decide) (by decide) (by decide) (by decide) rfl rfl ?_
  refine L_let fun g1 _ => ?_
  exact L_ret rfl rfl rfl
def lines_copyFrom_c2  (g : Sg) : Option (Sg) :=
  lt1 (up2 g 126 0 (g 33 0)) (fun g1 => Option.bind (x_copyInts_c63 g1) (fun g2 => Option.bind (x_copyInts_c64 g2) (fun g3 => Option.bind (x_copyInts_c65 g3) (fun g4 => Option.bind (x_copyFlags_c5 g4) (fun g5 => Option.bind (x_copyInts_c66 g5) (fun g6 => Option.bind (x_copyInts_c67 g6) (fun g7 => Option.bind (x_copyInts_c68 g7) (fun g8 => (some g8)))))))))
theorem e_lines_copyFrom_c2 {X : Xx} {d : Nat} (hd : 2 ≤ d)  (g : Sg) : ∀ r, lines_copyFrom_c2  g = some r → EvM zft mtl X d 20 [.ref 126, .ref 33] (SHF, g) ((fun r : Sg => ((none, (SHF, r)) : Out)) r) := by
  obtain ⟨d, rfl⟩ : ∃ d0, d = d0 + 1 := ⟨d - 1, by omega⟩
  have hd : 1 ≤ d := by omega
  refine E_in (f := (fun r : Sg => ((none, (SHF, r)) : Out))) rfl (Nat.le_of_ble_eq_true rfl) ?_
  unfold lines_copyFrom_c2
  change Lt X d none k_20 _ 0 [some (.ref 126), some (.ref 33)] [] g _
  refine L_s (pc' := 1) rfl rfl ?_
  refine L_s (pc' := 2) rfl rfl ?_
  refine L_gf (pc' := 5) rfl fi_33_0 rfl ?_
  refine L_pf (pc' := 8) rfl sh_126 (by decide) rfl rfl ?_
  refine L_let fun g1 _ => ?_
  refine L_s (pc' := 9) rfl rfl ?_
  refine L_gf (pc' := 12) rfl fr_33_1 rfl ?_
  refine L_s (pc' := 13) rfl rfl ?_
  refine L_gf (pc' := 16) rfl fr_126_1 rfl ?_
  refine L_cv (pc' := 19) (as := [.ref 34, .ref 127]) (rest := []) rfl rfl (e_x_copyInts_c63 (by omega) _) rfl fun g2 => ?_
  refine L_s (pc' := 20) rfl rfl ?_
  refine L_gf (pc' := 23) rfl fr_33_2 rfl ?_
  refine L_s (pc' := 24) rfl rfl ?_
  refine L_gf (pc' := 27) rfl fr_126_2 rfl ?_
  refine L_cv (pc' := 30) (as := [.ref 35, .ref 128]) (rest := []) rfl rfl (e_x_copyInts_c64 (by omega) _) rfl fun g3 => ?_
  refine L_s (pc' := 31) rfl rfl ?_
  refine L_gf (pc' := 34) rfl fr_33_3 rfl ?_
  refine L_s (pc' := 35) rfl rfl ?_
  refine L_gf (pc' := 38) rfl fr_126_3 rfl ?_
  refine L_cv (pc' := 41) (as := [.ref 36, .ref 129]) (rest := []) rfl rfl (e_x_copyInts_c65 (by omega) _) rfl fun g4 => ?_
  refine L_s (pc' := 42) rfl rfl ?_
  refine L_gf (pc' := 45) rfl fr_33_4 rfl ?_
  refine L_s (pc' := 46) rfl rfl ?_
  refine L_gf (pc' := 49) rfl fr_126_4 rfl ?_
  refine L_cv (pc' := 52) (as := [.ref 37, .ref 130]) (rest := []) rfl rfl (e_x_copyFlags_c5 (by omega) _) rfl fun g5 => ?_
  refine L_s (pc' := 53) rfl rfl ?_
  refine L_gf (pc' := 56) rfl fr_33_5 rfl ?_
  refine L_s (pc' := 57) rfl rfl ?_
  refine L_gf (pc' := 60) rfl fr_126_5 rfl ?_
  refine L_cv (pc' := 63) (as := [.ref 38, .ref 131]) (rest := []) rfl rfl (e_x_copyInts_c66 (by omega) _) rfl fun g6 => ?_
  refine L_s (pc' := 64) rfl rfl ?_
  refine L_gf (pc' := 67) rfl fr_33_6 rfl ?_
  refine L_s (pc' := 68) rfl rfl ?_
  refine L_gf (pc' := 71) rfl fr_126_6 rfl ?_
  refine L_cv (pc' := 74) (as := [.ref 39, .ref 132]) (rest := []) rfl rfl (e_x_copyInts_c67 (by omega) _) rfl fun g7 => ?_
  refine L_s (pc' := 75) rfl rfl ?_
  refine L_gf (pc' := 78) rfl fr_33_7 rfl ?_
  refine L_s (pc' := 79) rfl rfl ?_
  refine L_gf (pc' := 82) rfl fr_126_7 rfl ?_
  refine L_cv (pc' := 85) (as := [.ref 40, .ref 133]) (rest := []) rfl rfl (e_x_copyInts_c68 (by omega) _) rfl fun g8 => ?_
  exact L_ret rfl rfl rfl
def x_copyFlags_c6  (g : Sg) : Option (Sg) :=
  lt1 (cp2 g 41 0 134 0 (Int32.toNatClampNeg 100)) (fun g1 => (some g1))
theorem e_x_copyFlags_c6 {X : Xx} {d : Nat} (hd : 1 ≤ d)  (g : Sg) : ∀ r, x_copyFlags_c6  g = some r → EvM zft mtl X d 147 [.ref 41, .ref 134] (SHF, g) ((fun r : Sg => ((none, (SHF, r)) : Out)) r) := by
  obtain ⟨d, rfl⟩ : ∃ d0, d = d0 + 1 := ⟨d - 1, by omega⟩
  have hd : 0 ≤ d := by omega
  refine E_in (f := (fun r : Sg => ((none, (SHF, r)) : Out))) rfl (Nat.le_of_ble_eq_true rfl) ?_
  unfold x_copyFlags_c6
  change Lt X d none k_147 _ 0 [some (.ref 41), some (.ref 134)] [] g _
  refine L_s (pc' := 1) rfl rfl ?_
  refine L_ic (pc' := 2) rfl q1_0 rfl ?_
  refine L_s (pc' := 3) rfl rfl ?_
  refine L_ic (pc' := 4) rfl q1_0 rfl ?_
  refine L_s (pc' := 5) rfl rfl ?_
  refine L_s (pc' := 6) (st' := [.int 100, .int 0, .ref 134, .int 0, .ref 41]) rfl rfl ?_
  refine L_s (pc' := 7) rfl rfl ?_
  refine L_s (pc' := 8) (st' := [.int 100, .int 100, .int 0, .ref 134, .int 0, .ref 41]) rfl rfl ?_
  refine L_s (pc' := 11) rfl rfl ?_
  refine L_e (b := 100) (by decide) ?_
  refine L_cp (pc' := 14) rfl sh_41 sh_134 (by decide) (by decide) (by decide) (by decide) rfl rfl ?_
  refine L_let fun g1 _ => ?_
  exact L_ret rfl rfl rfl
def law_copyFrom_c1  (g : Sg) : Option (Sg) :=
  lt1 (up2 g 124 0 (g 31 0)) (fun g1 => Option.bind (x_copyBytes_c3 g1) (fun g2 => lt1 (up2 g2 124 2 (g2 31 2)) (fun g3 => lt1 (up2 g3 124 3 (g3 31 3)) (fun g4 => Option.bind (lines_copyFrom_c2 g4) (fun g5 => Option.bind (x_copyFlags_c6 g5) (fun g6 => (some g6)))))))
theorem e_law_copyFrom_c1 {X : Xx} {d : Nat} (hd : 3 ≤ d)  (g : Sg) : ∀ r, law_copyFrom_c1  g = some r → EvM zft mtl X d 18 [.ref 124, .ref 31] (SHF, g) ((fun r : Sg => ((none, (SHF, r)) : Out)) r) := by
  obtain ⟨d, rfl⟩ : ∃ d0, d = d0 + 1 := ⟨d - 1, by omega⟩
  have hd : 2 ≤ d := by omega
  refine E_in (f := (fun r : Sg => ((none, (SHF, r)) : Out))) rfl (Nat.le_of_ble_eq_true rfl) ?_
  unfold law_copyFrom_c1
  change Lt X d none k_18 _ 0 [some (.ref 124), some (.ref 31)] [] g _
  refine L_s (pc' := 1) rfl rfl ?_
  refine L_s (pc' := 2) rfl rfl ?_
  refine L_gf (pc' := 5) rfl fi_31_0 rfl ?_
  refine L_pf (pc' := 8) rfl sh_124 (by decide) rfl rfl ?_
  refine L_let fun g1 _ => ?_
  refine L_s (pc' := 9) rfl rfl ?_
  refine L_gf (pc' := 12) rfl fr_31_1 rfl ?_
  refine L_s (pc' := 13) rfl rfl ?_
  refine L_gf (pc' := 16) rfl fr_124_1 rfl ?_
  refine L_cv (pc' := 19) (as := [.ref 32, .ref 125]) (rest := []) rfl rfl (e_x_copyBytes_c3 (by omega) _) rfl fun g2 => ?_
  refine L_s (pc' := 20) rfl rfl ?_
  refine L_s (pc' := 21) rfl rfl ?_
  refine L_gf (pc' := 24) rfl fi_31_2 rfl ?_
  refine L_pf (pc' := 27) rfl sh_124 (by decide) rfl rfl ?_
  refine L_let fun g3 _ => ?_
  refine L_s (pc' := 28) rfl rfl ?_
  refine L_s (pc' := 29) rfl rfl ?_
  refine L_gf (pc' := 32) rfl fi_31_3 rfl ?_
  refine L_pf (pc' := 35) rfl sh_124 (by decide) rfl rfl ?_
  refine L_let fun g4 _ => ?_
  refine L_s (pc' := 36) rfl rfl ?_
  refine L_gf (pc' := 39) rfl fr_124_4 rfl ?_
  refine L_s (pc' := 40) rfl rfl ?_
  refine L_gf (pc' := 43) rfl fr_31_4 rfl ?_
  refine L_cv (pc' := 46) (as := [.ref 126, .ref 33]) (rest := []) rfl rfl (e_lines_copyFrom_c2 (by omega) _) rfl fun g5 => ?_
  refine L_s (pc' := 47) rfl rfl ?_
  refine L_gf (pc' := 50) rfl fr_31_5 rfl ?_
  refine L_s (pc' := 51) rfl rfl ?_
  refine L_gf (pc' := 54) rfl fr_124_5 rfl ?_
  refine L_cv (pc' := 57) (as := [.ref 41, .ref 134]) (rest := []) rfl rfl (e_x_copyFlags_c6 (by omega) _) rfl fun g6 => ?_
  exact L_ret rfl rfl rfl
def x_copyInts_c69  (g : Sg) : Option (Sg) :=
  lt1 (cp2 g 43 0 136 0 (Int32.toNatClampNeg 150)) (fun g1 => (some g1))
theorem e_x_copyInts_c69 {X : Xx} {d : Nat} (hd : 1 ≤ d)  (g : Sg) : ∀ r, x_copyInts_c69  g = some r → EvM zft mtl X d 145 [.ref 43, .ref 136] (SHF, g) ((fun r : Sg => ((none, (SHF, r)) : Out)) r) := by
  obtain ⟨d, rfl⟩ : ∃ d0, d = d0 + 1 := ⟨d - 1, by omega⟩
  have hd : 0 ≤ d := by omega
  refine E_in (f := (fun r : Sg => ((none, (SHF, r)) : Out))) rfl (Nat.le_of_ble_eq_true rfl) ?_
  unfold x_copyInts_c69
  change Lt X d none k_145 _ 0 [some (.ref 43), some (.ref 136)] [] g _
  refine L_s (pc' := 1) rfl rfl ?_
  refine L_ic (pc' := 2) rfl q1_0 rfl ?_
  refine L_s (pc' := 3) rfl rfl ?_
  refine L_ic (pc' := 4) rfl q1_0 rfl ?_
  refine L_s (pc' := 5) rfl rfl ?_
  refine L_s (pc' := 6) (st' := [.int 150, .int 0, .ref 136, .int 0, .ref 43]) rfl rfl ?_
  refine L_s (pc' := 7) rfl rfl ?_
  refine L_s (pc' := 8) (st' := [.int 150, .int 150, .int 0, .ref 136, .int 0, .ref 43]) rfl rfl ?_
  refine L_s (pc' := 11) rfl rfl ?_
  refine L_e (b := 150) (by decide) ?_
  refine L_cp (pc' := 14) rfl sh_43 sh_136 (by decide) (by decide) (by decide) (by decide) rfl rfl ?_
  refine L_let fun g1 _ => ?_
  exact L_ret rfl rfl rfl
def x_copyInts_c70  (g : Sg) : Option (Sg) :=
  lt1 (cp2 g 44 0 137 0 (Int32.toNatClampNeg 150)) (fun g1 => (some g1))
theorem e_x_copyInts_c70 {X : Xx} {d : Nat} (hd : 1 ≤ d)  (g : Sg) : ∀ r, x_copyInts_c70  g = some r → EvM zft mtl X d 145 [.ref 44, .ref 137] (SHF, g) ((fun r : Sg => ((none, (SHF, r)) : Out)) r) := by
  obtain ⟨d, rfl⟩ : ∃ d0, d = d0 + 1 := ⟨d - 1, by omega⟩
  have hd : 0 ≤ d := by omega
  refine E_in (f := (fun r : Sg => ((none, (SHF, r)) : Out))) rfl (Nat.le_of_ble_eq_true rfl) ?_
  unfold x_copyInts_c70
  change Lt X d none k_145 _ 0 [some (.ref 44), some (.ref 137)] [] g _
  refine L_s (pc' := 1) rfl rfl ?_
  refine L_ic (pc' := 2) rfl q1_0 rfl ?_
  refine L_s (pc' := 3) rfl rfl ?_
  refine L_ic (pc' := 4) rfl q1_0 rfl ?_
  refine L_s (pc' := 5) rfl rfl ?_
  refine L_s (pc' := 6) (st' := [.int 150, .int 0, .ref 137, .int 0, .ref 44]) rfl rfl ?_
  refine L_s (pc' := 7) rfl rfl ?_
  refine L_s (pc' := 8) (st' := [.int 150, .int 150, .int 0, .ref 137, .int 0, .ref 44]) rfl rfl ?_
  refine L_s (pc' := 11) rfl rfl ?_
  refine L_e (b := 150) (by decide) ?_
  refine L_cp (pc' := 14) rfl sh_44 sh_137 (by decide) (by decide) (by decide) (by decide) rfl rfl ?_
  refine L_let fun g1 _ => ?_
  exact L_ret rfl rfl rfl
def x_copyInts_c71  (g : Sg) : Option (Sg) :=
  lt1 (cp2 g 45 0 138 0 (Int32.toNatClampNeg 150)) (fun g1 => (some g1))
theorem e_x_copyInts_c71 {X : Xx} {d : Nat} (hd : 1 ≤ d)  (g : Sg) : ∀ r, x_copyInts_c71  g = some r → EvM zft mtl X d 145 [.ref 45, .ref 138] (SHF, g) ((fun r : Sg => ((none, (SHF, r)) : Out)) r) := by
  obtain ⟨d, rfl⟩ : ∃ d0, d = d0 + 1 := ⟨d - 1, by omega⟩
  have hd : 0 ≤ d := by omega
  refine E_in (f := (fun r : Sg => ((none, (SHF, r)) : Out))) rfl (Nat.le_of_ble_eq_true rfl) ?_
  unfold x_copyInts_c71
  change Lt X d none k_145 _ 0 [some (.ref 45), some (.ref 138)] [] g _
  refine L_s (pc' := 1) rfl rfl ?_
  refine L_ic (pc' := 2) rfl q1_0 rfl ?_
  refine L_s (pc' := 3) rfl rfl ?_
  refine L_ic (pc' := 4) rfl q1_0 rfl ?_
  refine L_s (pc' := 5) rfl rfl ?_
  refine L_s (pc' := 6) (st' := [.int 150, .int 0, .ref 138, .int 0, .ref 45]) rfl rfl ?_
  refine L_s (pc' := 7) rfl rfl ?_
  refine L_s (pc' := 8) (st' := [.int 150, .int 150, .int 0, .ref 138, .int 0, .ref 45]) rfl rfl ?_
  refine L_s (pc' := 11) rfl rfl ?_
  refine L_e (b := 150) (by decide) ?_
  refine L_cp (pc' := 14) rfl sh_45 sh_138 (by decide) (by decide) (by decide) (by decide) rfl rfl ?_
  refine L_let fun g1 _ => ?_
  exact L_ret rfl rfl rfl
def x_copyInts_c72  (g : Sg) : Option (Sg) :=
  lt1 (cp2 g 46 0 139 0 (Int32.toNatClampNeg 150)) (fun g1 => (some g1))
theorem e_x_copyInts_c72 {X : Xx} {d : Nat} (hd : 1 ≤ d)  (g : Sg) : ∀ r, x_copyInts_c72  g = some r → EvM zft mtl X d 145 [.ref 46, .ref 139] (SHF, g) ((fun r : Sg => ((none, (SHF, r)) : Out)) r) := by
  obtain ⟨d, rfl⟩ : ∃ d0, d = d0 + 1 := ⟨d - 1, by omega⟩
  have hd : 0 ≤ d := by omega
  refine E_in (f := (fun r : Sg => ((none, (SHF, r)) : Out))) rfl (Nat.le_of_ble_eq_true rfl) ?_
  unfold x_copyInts_c72
  change Lt X d none k_145 _ 0 [some (.ref 46), some (.ref 139)] [] g _
  refine L_s (pc' := 1) rfl rfl ?_
  refine L_ic (pc' := 2) rfl q1_0 rfl ?_
  refine L_s (pc' := 3) rfl rfl ?_
  refine L_ic (pc' := 4) rfl q1_0 rfl ?_
  refine L_s (pc' := 5) rfl rfl ?_
  refine L_s (pc' := 6) (st' := [.int 150, .int 0, .ref 139, .int 0, .ref 46]) rfl rfl ?_
  refine L_s (pc' := 7) rfl rfl ?_
  refine L_s (pc' := 8) (st' := [.int 150, .int 150, .int 0, .ref 139, .int 0, .ref 46]) rfl rfl ?_
  refine L_s (pc' := 11) rfl rfl ?_
  refine L_e (b := 150) (by decide) ?_
  refine L_cp (pc' := 14) rfl sh_46 sh_139 (by decide) (by decide) (by decide) (by decide) rfl rfl ?_
  refine L_let fun g1 _ => ?_
  exact L_ret rfl rfl rfl
def gauges_copyFrom_c1  (g : Sg) : Option (Sg) :=
  lt1 (up2 g 135 0 (g 42 0)) (fun g1 => Option.bind (x_copyInts_c69 g1) (fun g2 => Option.bind (x_copyInts_c70 g2) (fun g3 => Option.bind (x_copyInts_c71 g3) (fun g4 => Option.bind (x_copyInts_c72 g4) (fun g5 => (some g5))))))
theorem e_gauges_copyFrom_c1 {X : Xx} {d : Nat} (hd : 2 ≤ d)  (g : Sg) : ∀ r, gauges_copyFrom_c1  g = some r → EvM zft mtl X d 13 [.ref 135, .ref 42] (SHF, g) ((fun r : Sg => ((none, (SHF, r)) : Out)) r) := by
  obtain ⟨d, rfl⟩ : ∃ d0, d = d0 + 1 := ⟨d - 1, by omega⟩
  have hd : 1 ≤ d := by omega
  refine E_in (f := (fun r : Sg => ((none, (SHF, r)) : Out))) rfl (Nat.le_of_ble_eq_true rfl) ?_
  unfold gauges_copyFrom_c1
  change Lt X d none k_13 _ 0 [some (.ref 135), some (.ref 42)] [] g _
  refine L_s (pc' := 1) rfl rfl ?_
  refine L_s (pc' := 2) rfl rfl ?_
  refine L_gf (pc' := 5) rfl fi_42_0 rfl ?_
  refine L_pf (pc' := 8) rfl sh_135 (by decide) rfl rfl ?_
  refine L_let fun g1 _ => ?_
  refine L_s (pc' := 9) rfl rfl ?_
  refine L_gf (pc' := 12) rfl fr_42_1 rfl ?_
  refine L_s (pc' := 13) rfl rfl ?_
  refine L_gf (pc' := 16) rfl fr_135_1 rfl ?_
  refine L_cv (pc' := 19) (as := [.ref 43, .ref 136]) (rest := []) rfl rfl (e_x_copyInts_c69 (by omega) _) rfl fun g2 => ?_
  refine L_s (pc' := 20) rfl rfl ?_
  refine L_gf (pc' := 23) rfl fr_42_2 rfl ?_
  refine L_s (pc' := 24) rfl rfl ?_
  refine L_gf (pc' := 27) rfl fr_135_2 rfl ?_
  refine L_cv (pc' := 30) (as := [.ref 44, .ref 137]) (rest := []) rfl rfl (e_x_copyInts_c70 (by omega) _) rfl fun g3 => ?_
  refine L_s (pc' := 31) rfl rfl ?_
  refine L_gf (pc' := 34) rfl fr_42_3 rfl ?_
  refine L_s (pc' := 35) rfl rfl ?_
  refine L_gf (pc' := 38) rfl fr_135_3 rfl ?_
  refine L_cv (pc' := 41) (as := [.ref 45, .ref 138]) (rest := []) rfl rfl (e_x_copyInts_c71 (by omega) _) rfl fun g4 => ?_
  refine L_s (pc' := 42) rfl rfl ?_
  refine L_gf (pc' := 45) rfl fr_42_4 rfl ?_
  refine L_s (pc' := 46) rfl rfl ?_
  refine L_gf (pc' := 49) rfl fr_135_4 rfl ?_
  refine L_cv (pc' := 52) (as := [.ref 46, .ref 139]) (rest := []) rfl rfl (e_x_copyInts_c72 (by omega) _) rfl fun g5 => ?_
  exact L_ret rfl rfl rfl
def told_copyFrom_c1  (g : Sg) : Option (Sg) :=
  Option.bind (net_copyFrom_c1 g) (fun g1 => Option.bind (rights_copyFrom_c1 g1) (fun g2 => Option.bind (law_copyFrom_c1 g2) (fun g3 => Option.bind (gauges_copyFrom_c1 g3) (fun g4 => (some g4)))))
theorem e_told_copyFrom_c1 {X : Xx} {d : Nat} (hd : 4 ≤ d)  (g : Sg) : ∀ r, told_copyFrom_c1  g = some r → EvM zft mtl X d 88 [.ref 94, .ref 1] (SHF, g) ((fun r : Sg => ((none, (SHF, r)) : Out)) r) := by
  obtain ⟨d, rfl⟩ : ∃ d0, d = d0 + 1 := ⟨d - 1, by omega⟩
  have hd : 3 ≤ d := by omega
  refine E_in (f := (fun r : Sg => ((none, (SHF, r)) : Out))) rfl (Nat.le_of_ble_eq_true rfl) ?_
  unfold told_copyFrom_c1
  change Lt X d none k_88 _ 0 [some (.ref 94), some (.ref 1)] [] g _
  refine L_s (pc' := 1) rfl rfl ?_
  refine L_gf (pc' := 4) rfl fr_94_0 rfl ?_
  refine L_s (pc' := 5) rfl rfl ?_
  refine L_gf (pc' := 8) rfl fr_1_0 rfl ?_
  refine L_cv (pc' := 11) (as := [.ref 95, .ref 2]) (rest := []) rfl rfl (e_net_copyFrom_c1 (by omega) _) rfl fun g1 => ?_
  refine L_s (pc' := 12) rfl rfl ?_
  refine L_gf (pc' := 15) rfl fr_94_1 rfl ?_
  refine L_s (pc' := 16) rfl rfl ?_
  refine L_gf (pc' := 19) rfl fr_1_1 rfl ?_
  refine L_cv (pc' := 22) (as := [.ref 115, .ref 22]) (rest := []) rfl rfl (e_rights_copyFrom_c1 (by omega) _) rfl fun g2 => ?_
  refine L_s (pc' := 23) rfl rfl ?_
  refine L_gf (pc' := 26) rfl fr_94_2 rfl ?_
  refine L_s (pc' := 27) rfl rfl ?_
  refine L_gf (pc' := 30) rfl fr_1_2 rfl ?_
  refine L_cv (pc' := 33) (as := [.ref 124, .ref 31]) (rest := []) rfl rfl (e_law_copyFrom_c1 (by omega) _) rfl fun g3 => ?_
  refine L_s (pc' := 34) rfl rfl ?_
  refine L_gf (pc' := 37) rfl fr_94_3 rfl ?_
  refine L_s (pc' := 38) rfl rfl ?_
  refine L_gf (pc' := 41) rfl fr_1_3 rfl ?_
  refine L_cv (pc' := 44) (as := [.ref 135, .ref 42]) (rest := []) rfl rfl (e_gauges_copyFrom_c1 (by omega) _) rfl fun g4 => ?_
  exact L_ret rfl rfl rfl
