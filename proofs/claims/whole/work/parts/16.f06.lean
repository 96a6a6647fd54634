/-! printed by wip/whole/decomp.py -/
def reader_keepTest (v1 : Int32) (g : Sg) : Option (Sg) :=
  lt1 (((g 192 0) - 1) : Int32) (fun x1 => Option.bind (x_within x1 0 15 g) (fun x2 => (if x2 = 0 then
    (some g)
  else
    (if inb x1 16 = true then Option.bind (x_within (g 195 (Int32.toNatClampNeg x1)) 0 3 g) (fun x3 => (if ¬ x3 = 0 then
      (if inb x1 16 = true then lt1 (((x1 * 4) + (g 195 (Int32.toNatClampNeg x1))) : Int32) (fun x4 => (if inb x4 64 = true then lt1 (up2 g 196 (Int32.toNatClampNeg x4) ((g 191 8) &&& 1)) (fun g5 => (if inb x4 64 = true then lt1 (up2 g5 197 (Int32.toNatClampNeg x4) (g5 191 9)) (fun g6 => (if inb x4 64 = true then lt1 (up2 g6 198 (Int32.toNatClampNeg x4) (g6 191 10)) (fun g7 => (if inb x4 64 = true then lt1 (up2 g7 199 (Int32.toNatClampNeg x4) v1) (fun g8 => (if inb x1 16 = true then (if inb x1 16 = true then lt1 (up2 g8 195 (Int32.toNatClampNeg x1) ((g8 195 (Int32.toNatClampNeg x1)) + 1)) (fun g9 => (some g9)) else none) else none)) else none)) else none)) else none)) else none)) else none)
    else
      (some g))) else none))))
theorem e_reader_keepTest {X : Xx} {d : Nat} (hd : 2 ≤ d) (v1 : Int32) (g : Sg) : ∀ r, reader_keepTest v1 g = some r → EvM zft mtl X d 57 [.ref 191, .int v1] (SHF, g) ((fun r : Sg => ((none, (SHF, r)) : Out)) r) := by
  obtain ⟨d, rfl⟩ : ∃ d0, d = d0 + 1 := ⟨d - 1, by omega⟩
  have hd : 1 ≤ d := by omega
  refine E_in (f := (fun r : Sg => ((none, (SHF, r)) : Out))) rfl (Nat.le_of_ble_eq_true rfl) ?_
  unfold reader_keepTest
  change Lt X d none k_57 _ 0 [some (.ref 191), some (.int v1), none, none] [] g _
  refine L_s (pc' := 1) rfl rfl ?_
  refine L_gf (pc' := 4) rfl fr_191_0 rfl ?_
  refine L_gf (pc' := 7) rfl fi_192_0 rfl ?_
  refine L_ic (pc' := 8) rfl q1_1 rfl ?_
  refine L_s (pc' := 9) rfl rfl ?_
  refine L_li fun x1 _ => ?_
  refine L_s (pc' := 10) (L' := [some (.ref 191), some (.int v1), some (.int x1), none]) rfl rfl ?_
  refine L_s (pc' := 11) rfl rfl ?_
  refine L_ic (pc' := 12) rfl q1_0 rfl ?_
  refine L_bi (pc' := 14) rfl q2_15 rfl ?_
  refine L_ci (pc' := 17) (as := [.int x1, .int 0, .int 15]) (rest := []) rfl rfl (e_x_within (by omega) _ _ _ _) rfl fun x2 => ?_
  refine L_br (t := 37) (n := 20) rfl rfl (fun _ => ?_) (fun _ => ?_)
  · exact L_ret rfl rfl rfl
  · refine L_s (pc' := 21) rfl rfl ?_
    refine L_gf (pc' := 24) rfl fr_191_0 rfl ?_
    refine L_gf (pc' := 27) rfl fr_192_3 rfl ?_
    refine L_s (pc' := 28) rfl rfl ?_
    refine L_rI (pc' := 29) rfl sh_195 (by decide) rfl ?_
    refine L_ic (pc' := 30) rfl q1_0 rfl ?_
    refine L_ic (pc' := 31) rfl q1_3 rfl ?_
    refine L_ci (pc' := 34) (as := [.int (g 195 (Int32.toNatClampNeg x1)), .int 0, .int 3]) (rest := []) rfl rfl (e_x_within (by omega) _ _ _ _) rfl fun x3 => ?_
    refine L_br (t := 38) (n := 37) rfl rfl (fun _ => ?_) (fun _ => ?_)
    · refine L_s (pc' := 39) rfl rfl ?_
      refine L_ic (pc' := 40) rfl q1_4 rfl ?_
      refine L_s (pc' := 41) rfl rfl ?_
      refine L_s (pc' := 42) rfl rfl ?_
      refine L_gf (pc' := 45) rfl fr_191_0 rfl ?_
      refine L_gf (pc' := 48) rfl fr_192_3 rfl ?_
      refine L_s (pc' := 49) rfl rfl ?_
      refine L_rI (pc' := 50) rfl sh_195 (by decide) rfl ?_
      refine L_s (pc' := 51) rfl rfl ?_
      refine L_li fun x4 _ => ?_
      refine L_s (pc' := 52) (L' := [some (.ref 191), some (.int v1), some (.int x1), some (.int x4)]) rfl rfl ?_
      refine L_s (pc' := 53) rfl rfl ?_
      refine L_gf (pc' := 56) rfl fr_191_0 rfl ?_
      refine L_gf (pc' := 59) rfl fr_192_4 rfl ?_
      refine L_s (pc' := 60) rfl rfl ?_
      refine L_s (pc' := 61) rfl rfl ?_
      refine L_gf (pc' := 64) rfl fi_191_8 rfl ?_
      refine L_wZ (pc' := 65) rfl sh_196 (by decide) rfl ?_
      refine L_let fun g5 _ => ?_
      refine L_s (pc' := 66) rfl rfl ?_
      refine L_gf (pc' := 69) rfl fr_191_0 rfl ?_
      refine L_gf (pc' := 72) rfl fr_192_5 rfl ?_
      refine L_s (pc' := 73) rfl rfl ?_
      refine L_s (pc' := 74) rfl rfl ?_
      refine L_gf (pc' := 77) rfl fi_191_9 rfl ?_
      refine L_wI (pc' := 78) rfl sh_197 (by decide) rfl ?_
      refine L_let fun g6 _ => ?_
      refine L_s (pc' := 79) rfl rfl ?_
      refine L_gf (pc' := 82) rfl fr_191_0 rfl ?_
      refine L_gf (pc' := 85) rfl fr_192_6 rfl ?_
      refine L_s (pc' := 86) rfl rfl ?_
      refine L_s (pc' := 87) rfl rfl ?_
      refine L_gf (pc' := 90) rfl fi_191_10 rfl ?_
      refine L_wI (pc' := 91) rfl sh_198 (by decide) rfl ?_
      refine L_let fun g7 _ => ?_
      refine L_s (pc' := 92) rfl rfl ?_
      refine L_gf (pc' := 95) rfl fr_191_0 rfl ?_
      refine L_gf (pc' := 98) rfl fr_192_7 rfl ?_
      refine L_s (pc' := 99) rfl rfl ?_
      refine L_s (pc' := 100) rfl rfl ?_
      refine L_wI (pc' := 101) rfl sh_199 (by decide) rfl ?_
      refine L_let fun g8 _ => ?_
      refine L_s (pc' := 102) rfl rfl ?_
      refine L_gf (pc' := 105) rfl fr_191_0 rfl ?_
      refine L_gf (pc' := 108) rfl fr_192_3 rfl ?_
      refine L_s (pc' := 109) rfl rfl ?_
      refine L_s (pc' := 110) rfl rfl ?_
      refine L_rI (pc' := 111) rfl sh_195 (by decide) rfl ?_
      refine L_ic (pc' := 112) rfl q1_1 rfl ?_
      refine L_s (pc' := 113) rfl rfl ?_
      refine L_wI (pc' := 114) rfl sh_195 (by decide) rfl ?_
      refine L_let fun g9 _ => ?_
      exact L_ret rfl rfl rfl
    · exact L_ret rfl rfl rfl
def reader_takeFact  (g : Sg) : Option (Int32 × Sg) :=
  Option.bind (tokens_isFact (g 191 6) g) (fun x1 => (if ¬ x1 = 0 then
    lt1 (up2 g 191 9 (g 191 6)) (fun g2 => (if ¬ (g2 191 9) = 7 then
      lt1 (up2 g2 191 3 3) (fun g3 => (some (1, g3)))
    else
      lt1 (up2 g2 191 10 17) (fun g4 => Option.bind (reader_keepTest 1 g4) (fun g5 => lt1 (up2 g5 191 3 5) (fun g6 => (some (1, g6)))))))
  else
    (some (0, g))))
theorem e_reader_takeFact {X : Xx} {d : Nat} (hd : 3 ≤ d)  (g : Sg) : ∀ r, reader_takeFact  g = some r → EvM zft mtl X d 51 [.ref 191] (SHF, g) ((fun r : Int32 × Sg => ((some (.int r.1), (SHF, r.2)) : Out)) r) := by
  obtain ⟨d, rfl⟩ : ∃ d0, d = d0 + 1 := ⟨d - 1, by omega⟩
  have hd : 2 ≤ d := by omega
  refine E_in (f := (fun r : Int32 × Sg => ((some (.int r.1), (SHF, r.2)) : Out))) rfl (Nat.le_of_ble_eq_true rfl) ?_
  unfold reader_takeFact
  change Lt X d (some .boolean) k_51 _ 0 [some (.ref 191)] [] g _
  refine L_s (pc' := 1) rfl rfl ?_
  refine L_gf (pc' := 4) rfl fi_191_6 rfl ?_
  refine L_ci (pc' := 7) (as := [.int (g 191 6)]) (rest := []) rfl rfl (e_tokens_isFact (by omega) _ _) rfl fun x1 => ?_
  refine L_br (t := 12) (n := 10) rfl rfl (fun _ => ?_) (fun _ => ?_)
  · refine L_s (pc' := 13) rfl rfl ?_
    refine L_s (pc' := 14) rfl rfl ?_
    refine L_gf (pc' := 17) rfl fi_191_6 rfl ?_
    refine L_pf (pc' := 20) rfl sh_191 (by decide) rfl rfl ?_
    refine L_let fun g2 _ => ?_
    refine L_s (pc' := 21) rfl rfl ?_
    refine L_gf (pc' := 24) rfl fi_191_9 rfl ?_
    refine L_bi (pc' := 26) rfl q2_7 rfl ?_
    refine L_br (t := 48) (n := 29) rfl rfl (fun _ => ?_) (fun _ => ?_)
    · refine L_s (pc' := 49) rfl rfl ?_
      refine L_ic (pc' := 50) rfl q1_3 rfl ?_
      refine L_pf (pc' := 53) rfl sh_191 (by decide) rfl rfl ?_
      refine L_let fun g3 _ => ?_
      refine L_ic (pc' := 54) rfl q1_1 rfl ?_
      exact L_ret rfl (ret_z (by decide)) rfl
    · refine L_s (pc' := 30) rfl rfl ?_
      refine L_bi (pc' := 32) rfl q2_17 rfl ?_
      refine L_pf (pc' := 35) rfl sh_191 (by decide) rfl rfl ?_
      refine L_let fun g4 _ => ?_
      refine L_s (pc' := 36) rfl rfl ?_
      refine L_ic (pc' := 37) rfl q1_1 rfl ?_
      refine L_cv (pc' := 40) (as := [.ref 191, .int 1]) (rest := []) rfl rfl (e_reader_keepTest (by omega) _ _) rfl fun g5 => ?_
      refine L_s (pc' := 41) rfl rfl ?_
      refine L_ic (pc' := 42) rfl q1_5 rfl ?_
      refine L_pf (pc' := 45) rfl sh_191 (by decide) rfl rfl ?_
      refine L_let fun g6 _ => ?_
      refine L_s (pc' := 53) rfl rfl ?_
      refine L_ic (pc' := 54) rfl q1_1 rfl ?_
      exact L_ret rfl (ret_z (by decide)) rfl
  · refine L_ic (pc' := 11) rfl q1_0 rfl ?_
    exact L_ret rfl (ret_z (by decide)) rfl
def reader_beginTest_52 (s0 : Int32) (g : Sg) : Option (Int32 × Sg) :=
  (if s0 = 0 ∨ s0 = 1 then lt1 (up2 g 191 8 s0) (fun g2 => (if (g2 191 8) = 0 then
    Option.bind (reader_takeFact g2) (fun (x3, g4) => (if x3 = 0 ∨ x3 = 1 then (some (x3, g4)) else none))
  else
    lt1 (up2 g2 191 3 2) (fun g5 => (some (1, g5))))) else none)
def reader_beginTest_38  (g : Sg) : Option (Int32 × Sg) :=
  (if ¬ (g 191 6) = 3 then
    (reader_beginTest_52 0 g)
  else
    (reader_beginTest_52 1 g))
def reader_beginTest  (g : Sg) : Option (Int32 × Sg) :=
  lt1 (((g 192 0) - 1) : Int32) (fun x1 => Option.bind (x_within x1 0 15 g) (fun x2 => (if x2 = 0 then
    (reader_beginTest_38 g)
  else
    (if inb x1 16 = true then (if (g 195 (Int32.toNatClampNeg x1)) < 4 then
      (reader_beginTest_38 g)
    else
      Option.bind (reader_noteFault 3 g) (fun g3 => (reader_beginTest_38 g3))) else none))))
theorem p_reader_beginTest_52 {X : Xx} {d : Nat} (hd : 3 ≤ d) (s0 : Int32) (g : Sg) : Lt X d (some .boolean) k_50 (fun r : Int32 × Sg => ((some (.int r.1), (SHF, r.2)) : Out)) 52 [some (.ref 191), none] [.int s0, .ref 191] g (reader_beginTest_52 s0 g) := by
  unfold reader_beginTest_52
  refine L_g fun h1 => ?_
  refine L_pz (pc' := 55) rfl sh_191 (by decide) rfl h1 rfl ?_
  refine L_let fun g2 _ => ?_
  refine L_s (pc' := 56) rfl rfl ?_
  refine L_gf (pc' := 59) rfl fi_191_8 rfl ?_
  refine L_br (t := 69) (n := 62) rfl rfl (fun _ => ?_) (fun _ => ?_)
  · refine L_s (pc' := 70) rfl rfl ?_
    refine L_cig (pc' := 73) (as := [.ref 191]) (rest := []) rfl rfl (e_reader_takeFact (by omega) _) rfl fun x3 g4 => ?_
    exact L_g fun h => L_ret rfl (ret_z h) rfl
  · refine L_s (pc' := 63) rfl rfl ?_
    refine L_ic (pc' := 64) rfl q1_2 rfl ?_
    refine L_pf (pc' := 67) rfl sh_191 (by decide) rfl rfl ?_
    refine L_let fun g5 _ => ?_
    refine L_ic (pc' := 68) rfl q1_1 rfl ?_
    exact L_ret rfl (ret_z (by decide)) rfl
theorem p_reader_beginTest_38 {X : Xx} {d : Nat} (hd : 3 ≤ d)  (g : Sg) : Lt X d (some .boolean) k_50 (fun r : Int32 × Sg => ((some (.int r.1), (SHF, r.2)) : Out)) 38 [some (.ref 191), none] [] g (reader_beginTest_38 g) := by
  unfold reader_beginTest_38
  refine L_s (pc' := 39) rfl rfl ?_
  refine L_s (pc' := 40) rfl rfl ?_
  refine L_gf (pc' := 43) rfl fi_191_6 rfl ?_
  refine L_ic (pc' := 44) rfl q1_3 rfl ?_
  refine L_br (t := 51) (n := 47) rfl rfl (fun _ => ?_) (fun _ => ?_)
  · refine L_ic (pc' := 52) rfl q1_0 rfl ?_
    exact p_reader_beginTest_52 hd _ _
  · refine L_ic (pc' := 48) rfl q1_1 rfl ?_
    refine L_s (pc' := 52) rfl rfl ?_
    exact p_reader_beginTest_52 hd _ _
theorem e_reader_beginTest {X : Xx} {d : Nat} (hd : 4 ≤ d)  (g : Sg) : ∀ r, reader_beginTest  g = some r → EvM zft mtl X d 50 [.ref 191] (SHF, g) ((fun r : Int32 × Sg => ((some (.int r.1), (SHF, r.2)) : Out)) r) := by
  obtain ⟨d, rfl⟩ : ∃ d0, d = d0 + 1 := ⟨d - 1, by omega⟩
  have hd : 3 ≤ d := by omega
  refine E_in (f := (fun r : Int32 × Sg => ((some (.int r.1), (SHF, r.2)) : Out))) rfl (Nat.le_of_ble_eq_true rfl) ?_
  unfold reader_beginTest
  change Lt X d (some .boolean) k_50 _ 0 [some (.ref 191), none] [] g _
  refine L_s (pc' := 1) rfl rfl ?_
  refine L_gf (pc' := 4) rfl fr_191_0 rfl ?_
  refine L_gf (pc' := 7) rfl fi_192_0 rfl ?_
  refine L_ic (pc' := 8) rfl q1_1 rfl ?_
  refine L_s (pc' := 9) rfl rfl ?_
  refine L_li fun x1 _ => ?_
  refine L_s (pc' := 10) (L' := [some (.ref 191), some (.int x1)]) rfl rfl ?_
  refine L_s (pc' := 11) rfl rfl ?_
  refine L_ic (pc' := 12) rfl q1_0 rfl ?_
  refine L_bi (pc' := 14) rfl q2_15 rfl ?_
  refine L_ci (pc' := 17) (as := [.int x1, .int 0, .int 15]) (rest := []) rfl rfl (e_x_within (by omega) _ _ _ _) rfl fun x2 => ?_
  refine L_br (t := 38) (n := 20) rfl rfl (fun _ => ?_) (fun _ => ?_)
  · refine L_wk (L' := [some (.ref 191), none]) (wk_s (wk_n wk_nil)) ?_
    exact p_reader_beginTest_38 hd _
  · refine L_s (pc' := 21) rfl rfl ?_
    refine L_gf (pc' := 24) rfl fr_191_0 rfl ?_
    refine L_gf (pc' := 27) rfl fr_192_3 rfl ?_
    refine L_s (pc' := 28) rfl rfl ?_
    refine L_rI (pc' := 29) rfl sh_195 (by decide) rfl ?_
    refine L_ic (pc' := 30) rfl q1_4 rfl ?_
    refine L_br (t := 38) (n := 33) rfl rfl (fun _ => ?_) (fun _ => ?_)
    · refine L_wk (L' := [some (.ref 191), none]) (wk_s (wk_n wk_nil)) ?_
      exact p_reader_beginTest_38 hd _
    · refine L_s (pc' := 34) rfl rfl ?_
      refine L_ic (pc' := 35) rfl q1_3 rfl ?_
      refine L_cv (pc' := 38) (as := [.ref 191, .int 3]) (rest := []) rfl rfl (e_reader_noteFault (by omega) _ _) rfl fun g3 => ?_
      refine L_wk (L' := [some (.ref 191), none]) (wk_s (wk_n wk_nil)) ?_
      exact p_reader_beginTest_38 hd _
def tokens_isSign (v0 : Int32) (g : Sg) : Option (Int32) :=
  (if v0 = 15 then
    (some 1)
  else
    (if v0 = 16 then
      (some 1)
    else
      (if ¬ v0 = 17 then
        (some 0)
      else
        (some 1))))
theorem e_tokens_isSign {X : Xx} {d : Nat} (hd : 1 ≤ d) (v0 : Int32) (g : Sg) : ∀ r, tokens_isSign v0 g = some r → EvM zft mtl X d 81 [.int v0] (SHF, g) ((fun r : Int32 => ((some (.int r), (SHF, g)) : Out)) r) := by
  obtain ⟨d, rfl⟩ : ∃ d0, d = d0 + 1 := ⟨d - 1, by omega⟩
  have hd : 0 ≤ d := by omega
  refine E_in (f := (fun r : Int32 => ((some (.int r), (SHF, g)) : Out))) rfl (Nat.le_of_ble_eq_true rfl) ?_
  unfold tokens_isSign
  change Lt X d (some .boolean) k_81 _ 0 [some (.int v0)] [] g _
  refine L_s (pc' := 1) rfl rfl ?_
  refine L_bi (pc' := 3) rfl q2_15 rfl ?_
  refine L_br (t := 18) (n := 6) rfl rfl (fun _ => ?_) (fun _ => ?_)
  · refine L_ic (pc' := 19) rfl q1_1 rfl ?_
    refine L_s (pc' := 23) rfl rfl ?_
    exact L_ret rfl (ret_z (by decide)) rfl
  · refine L_s (pc' := 7) rfl rfl ?_
    refine L_bi (pc' := 9) rfl q2_16 rfl ?_
    refine L_br (t := 18) (n := 12) rfl rfl (fun _ => ?_) (fun _ => ?_)
    · refine L_ic (pc' := 19) rfl q1_1 rfl ?_
      refine L_s (pc' := 23) rfl rfl ?_
      exact L_ret rfl (ret_z (by decide)) rfl
    · refine L_s (pc' := 13) rfl rfl ?_
      refine L_bi (pc' := 15) rfl q2_17 rfl ?_
      refine L_br (t := 22) (n := 18) rfl rfl (fun _ => ?_) (fun _ => ?_)
      · refine L_ic (pc' := 23) rfl q1_0 rfl ?_
        exact L_ret rfl (ret_z (by decide)) rfl
      · refine L_ic (pc' := 19) rfl q1_1 rfl ?_
        refine L_s (pc' := 23) rfl rfl ?_
        exact L_ret rfl (ret_z (by decide)) rfl
def reader_takeSign  (g : Sg) : Option (Int32 × Sg) :=
  lt1 (up2 g 191 10 (g 191 6)) (fun g1 => lt1 (up2 g1 191 3 4) (fun g2 => Option.bind (tokens_isSign (g2 191 6) g2) (fun x3 => (if x3 = 0 ∨ x3 = 1 then (some (x3, g2)) else none))))
theorem e_reader_takeSign {X : Xx} {d : Nat} (hd : 2 ≤ d)  (g : Sg) : ∀ r, reader_takeSign  g = some r → EvM zft mtl X d 52 [.ref 191] (SHF, g) ((fun r : Int32 × Sg => ((some (.int r.1), (SHF, r.2)) : Out)) r) := by
  obtain ⟨d, rfl⟩ : ∃ d0, d = d0 + 1 := ⟨d - 1, by omega⟩
  have hd : 1 ≤ d := by omega
  refine E_in (f := (fun r : Int32 × Sg => ((some (.int r.1), (SHF, r.2)) : Out))) rfl (Nat.le_of_ble_eq_true rfl) ?_
  unfold reader_takeSign
  change Lt X d (some .boolean) k_52 _ 0 [some (.ref 191)] [] g _
  refine L_s (pc' := 1) rfl rfl ?_
  refine L_s (pc' := 2) rfl rfl ?_
  refine L_gf (pc' := 5) rfl fi_191_6 rfl ?_
  refine L_pf (pc' := 8) rfl sh_191 (by decide) rfl rfl ?_
  refine L_let fun g1 _ => ?_
  refine L_s (pc' := 9) rfl rfl ?_
  refine L_ic (pc' := 10) rfl q1_4 rfl ?_
  refine L_pf (pc' := 13) rfl sh_191 (by decide) rfl rfl ?_
  refine L_let fun g2 _ => ?_
  refine L_s (pc' := 14) rfl rfl ?_
  refine L_gf (pc' := 17) rfl fi_191_6 rfl ?_
  refine L_ci (pc' := 20) (as := [.int (g2 191 6)]) (rest := []) rfl rfl (e_tokens_isSign (by omega) _ _) rfl fun x3 => ?_
  exact L_g fun h => L_ret rfl (ret_z h) rfl
def reader_takeLimit  (g : Sg) : Option (Int32 × Sg) :=
  (if (g 191 6) = 18 then
    Option.bind (reader_keepTest (g 191 7) g) (fun g1 => lt1 (up2 g1 191 3 5) (fun g2 => (some (1, g2))))
  else
    (some (0, g)))
theorem e_reader_takeLimit {X : Xx} {d : Nat} (hd : 3 ≤ d)  (g : Sg) : ∀ r, reader_takeLimit  g = some r → EvM zft mtl X d 53 [.ref 191] (SHF, g) ((fun r : Int32 × Sg => ((some (.int r.1), (SHF, r.2)) : Out)) r) := by
  obtain ⟨d, rfl⟩ : ∃ d0, d = d0 + 1 := ⟨d - 1, by omega⟩
  have hd : 2 ≤ d := by omega
  refine E_in (f := (fun r : Int32 × Sg => ((some (.int r.1), (SHF, r.2)) : Out))) rfl (Nat.le_of_ble_eq_true rfl) ?_
  unfold reader_takeLimit
  change Lt X d (some .boolean) k_53 _ 0 [some (.ref 191)] [] g _
  refine L_s (pc' := 1) rfl rfl ?_
  refine L_gf (pc' := 4) rfl fi_191_6 rfl ?_
  refine L_bi (pc' := 6) rfl q2_18 rfl ?_
  refine L_br (t := 11) (n := 9) rfl rfl (fun _ => ?_) (fun _ => ?_)
  · refine L_s (pc' := 12) rfl rfl ?_
    refine L_s (pc' := 13) rfl rfl ?_
    refine L_gf (pc' := 16) rfl fi_191_7 rfl ?_
    refine L_cv (pc' := 19) (as := [.ref 191, .int (g 191 7)]) (rest := []) rfl rfl (e_reader_keepTest (by omega) _ _) rfl fun g1 => ?_
    refine L_s (pc' := 20) rfl rfl ?_
    refine L_ic (pc' := 21) rfl q1_5 rfl ?_
    refine L_pf (pc' := 24) rfl sh_191 (by decide) rfl rfl ?_
    refine L_let fun g2 _ => ?_
    refine L_ic (pc' := 25) rfl q1_1 rfl ?_
    exact L_ret rfl (ret_z (by decide)) rfl
  · refine L_ic (pc' := 10) rfl q1_0 rfl ?_
    exact L_ret rfl (ret_z (by decide)) rfl
def reader_takeAnd_15 (s0 : Int32) (g : Sg) : Option (Int32 × Sg) :=
  lt1 (up2 g 191 3 s0) (fun g1 => (if (g1 191 6) = 2 then
    (some (1, g1))
  else
    (if ¬ (g1 191 6) = 13 then
      (some (0, g1))
    else
      (some (1, g1)))))
def reader_takeAnd  (g : Sg) : Option (Int32 × Sg) :=
  (if ¬ (g 191 6) = 2 then
    (reader_takeAnd_15 6 g)
  else
    (reader_takeAnd_15 1 g))
theorem p_reader_takeAnd_15 {X : Xx} {d : Nat} (hd : 0 ≤ d) (s0 : Int32) (g : Sg) : Lt X d (some .boolean) k_54 (fun r : Int32 × Sg => ((some (.int r.1), (SHF, r.2)) : Out)) 15 [some (.ref 191)] [.int s0, .ref 191] g (reader_takeAnd_15 s0 g) := by
  unfold reader_takeAnd_15
  refine L_pf (pc' := 18) rfl sh_191 (by decide) rfl rfl ?_
  refine L_let fun g1 _ => ?_
  refine L_s (pc' := 19) rfl rfl ?_
  refine L_gf (pc' := 22) rfl fi_191_6 rfl ?_
  refine L_ic (pc' := 23) rfl q1_2 rfl ?_
  refine L_br (t := 35) (n := 26) rfl rfl (fun _ => ?_) (fun _ => ?_)
  · refine L_ic (pc' := 36) rfl q1_1 rfl ?_
    refine L_s (pc' := 40) rfl rfl ?_
    exact L_ret rfl (ret_z (by decide)) rfl
  · refine L_s (pc' := 27) rfl rfl ?_
    refine L_gf (pc' := 30) rfl fi_191_6 rfl ?_
    refine L_bi (pc' := 32) rfl q2_13 rfl ?_
    refine L_br (t := 39) (n := 35) rfl rfl (fun _ => ?_) (fun _ => ?_)
    · refine L_ic (pc' := 40) rfl q1_0 rfl ?_
      exact L_ret rfl (ret_z (by decide)) rfl
    · refine L_ic (pc' := 36) rfl q1_1 rfl ?_
      refine L_s (pc' := 40) rfl rfl ?_
      exact L_ret rfl (ret_z (by decide)) rfl
theorem e_reader_takeAnd {X : Xx} {d : Nat} (hd : 1 ≤ d)  (g : Sg) : ∀ r, reader_takeAnd  g = some r → EvM zft mtl X d 54 [.ref 191] (SHF, g) ((fun r : Int32 × Sg => ((some (.int r.1), (SHF, r.2)) : Out)) r) := by
  obtain ⟨d, rfl⟩ : ∃ d0, d = d0 + 1 := ⟨d - 1, by omega⟩
  have hd : 0 ≤ d := by omega
  refine E_in (f := (fun r : Int32 × Sg => ((some (.int r.1), (SHF, r.2)) : Out))) rfl (Nat.le_of_ble_eq_true rfl) ?_
  unfold reader_takeAnd
  change Lt X d (some .boolean) k_54 _ 0 [some (.ref 191)] [] g _
  refine L_s (pc' := 1) rfl rfl ?_
  refine L_s (pc' := 2) rfl rfl ?_
  refine L_gf (pc' := 5) rfl fi_191_6 rfl ?_
  refine L_ic (pc' := 6) rfl q1_2 rfl ?_
  refine L_br (t := 13) (n := 9) rfl rfl (fun _ => ?_) (fun _ => ?_)
  · refine L_bi (pc' := 15) rfl q2_6 rfl ?_
    exact p_reader_takeAnd_15 hd _ _
  · refine L_ic (pc' := 10) rfl q1_1 rfl ?_
    refine L_s (pc' := 15) rfl rfl ?_
    exact p_reader_takeAnd_15 hd _ _
def reader_takeActNumber_58 (v1 : Int32) (g : Sg) : Option (Int32 × Sg) :=
  (if inb v1 16 = true then lt1 (up2 g 194 (Int32.toNatClampNeg v1) (g 191 7)) (fun g1 => lt1 (up2 g1 191 3 8) (fun g2 => (some (1, g2)))) else none)
def reader_takeActNumber  (g : Sg) : Option (Int32 × Sg) :=
  lt1 (((g 192 0) - 1) : Int32) (fun x1 => (if ¬ (g 191 6) = 18 then
    (some (0, g))
  else
    Option.bind (x_within x1 0 15 g) (fun x2 => (if ¬ x2 = 0 then
      (if inb x1 16 = true then (if ¬ (g 193 (Int32.toNatClampNeg x1)) = 5 then
        (reader_takeActNumber_58 x1 g)
      else
        (if (g 191 7) ≤ 100 then
          (reader_takeActNumber_58 x1 g)
        else
          Option.bind (reader_noteFault 2 g) (fun g3 => (reader_takeActNumber_58 x1 g3)))) else none)
    else
      (some (0, g))))))
theorem p_reader_takeActNumber_58 {X : Xx} {d : Nat} (hd : 1 ≤ d) (v1 : Int32) (g : Sg) : Lt X d (some .boolean) k_56 (fun r : Int32 × Sg => ((some (.int r.1), (SHF, r.2)) : Out)) 58 [some (.ref 191), some (.int v1)] [] g (reader_takeActNumber_58 v1 g) := by
  unfold reader_takeActNumber_58
  refine L_s (pc' := 59) rfl rfl ?_
  refine L_gf (pc' := 62) rfl fr_191_0 rfl ?_
  refine L_gf (pc' := 65) rfl fr_192_2 rfl ?_
  refine L_s (pc' := 66) rfl rfl ?_
  refine L_s (pc' := 67) rfl rfl ?_
  refine L_gf (pc' := 70) rfl fi_191_7 rfl ?_
  refine L_wI (pc' := 71) rfl sh_194 (by decide) rfl ?_
  refine L_let fun g1 _ => ?_
  refine L_s (pc' := 72) rfl rfl ?_
  refine L_bi (pc' := 74) rfl q2_8 rfl ?_
  refine L_pf (pc' := 77) rfl sh_191 (by decide) rfl rfl ?_
  refine L_let fun g2 _ => ?_
  refine L_ic (pc' := 78) rfl q1_1 rfl ?_
  exact L_ret rfl (ret_z (by decide)) rfl
theorem e_reader_takeActNumber {X : Xx} {d : Nat} (hd : 2 ≤ d)  (g : Sg) : ∀ r, reader_takeActNumber  g = some r → EvM zft mtl X d 56 [.ref 191] (SHF, g) ((fun r : Int32 × Sg => ((some (.int r.1), (SHF, r.2)) : Out)) r) := by
  obtain ⟨d, rfl⟩ : ∃ d0, d = d0 + 1 := ⟨d - 1, by omega⟩
  have hd : 1 ≤ d := by omega
  refine E_in (f := (fun r : Int32 × Sg => ((some (.int r.1), (SHF, r.2)) : Out))) rfl (Nat.le_of_ble_eq_true rfl) ?_
  unfold reader_takeActNumber
  change Lt X d (some .boolean) k_56 _ 0 [some (.ref 191), none] [] g _
  refine L_s (pc' := 1) rfl rfl ?_
  refine L_gf (pc' := 4) rfl fr_191_0 rfl ?_
  refine L_gf (pc' := 7) rfl fi_192_0 rfl ?_
  refine L_ic (pc' := 8) rfl q1_1 rfl ?_
  refine L_s (pc' := 9) rfl rfl ?_
  refine L_li fun x1 _ => ?_
  refine L_s (pc' := 10) (L' := [some (.ref 191), some (.int x1)]) rfl rfl ?_
  refine L_s (pc' := 11) rfl rfl ?_
  refine L_gf (pc' := 14) rfl fi_191_6 rfl ?_
  refine L_bi (pc' := 16) rfl q2_18 rfl ?_
  refine L_br (t := 29) (n := 19) rfl rfl (fun _ => ?_) (fun _ => ?_)
  · refine L_ic (pc' := 30) rfl q1_0 rfl ?_
    exact L_ret rfl (ret_z (by decide)) rfl
  · refine L_s (pc' := 20) rfl rfl ?_
    refine L_ic (pc' := 21) rfl q1_0 rfl ?_
    refine L_bi (pc' := 23) rfl q2_15 rfl ?_
    refine L_ci (pc' := 26) (as := [.int x1, .int 0, .int 15]) (rest := []) rfl rfl (e_x_within (by omega) _ _ _ _) rfl fun x2 => ?_
    refine L_br (t := 31) (n := 29) rfl rfl (fun _ => ?_) (fun _ => ?_)
    · refine L_s (pc' := 32) rfl rfl ?_
      refine L_gf (pc' := 35) rfl fr_191_0 rfl ?_
      refine L_gf (pc' := 38) rfl fr_192_1 rfl ?_
      refine L_s (pc' := 39) rfl rfl ?_
      refine L_rI (pc' := 40) rfl sh_193 (by decide) rfl ?_
      refine L_ic (pc' := 41) rfl q1_5 rfl ?_
      refine L_br (t := 58) (n := 44) rfl rfl (fun _ => ?_) (fun _ => ?_)
      · exact p_reader_takeActNumber_58 hd _ _
      · refine L_s (pc' := 45) rfl rfl ?_
        refine L_gf (pc' := 48) rfl fi_191_7 rfl ?_
        refine L_bi (pc' := 50) rfl q2_100 rfl ?_
        refine L_br (t := 58) (n := 53) rfl rfl (fun _ => ?_) (fun _ => ?_)
        · exact p_reader_takeActNumber_58 hd _ _
        · refine L_s (pc' := 54) rfl rfl ?_
          refine L_ic (pc' := 55) rfl q1_2 rfl ?_
          refine L_cv (pc' := 58) (as := [.ref 191, .int 2]) (rest := []) rfl rfl (e_reader_noteFault (by omega) _ _) rfl fun g3 => ?_
          exact p_reader_takeActNumber_58 hd _ _
    · refine L_ic (pc' := 30) rfl q1_0 rfl ?_
      exact L_ret rfl (ret_z (by decide)) rfl
def reader_goesOn  (g : Sg) : Option (Int32 × Sg) :=
  lt1 ((g 191 3) : Int32) (fun x1 => (if x1 = 0 then
    Option.bind (reader_beginLine g) (fun (x2, g3) => (if x2 = 0 ∨ x2 = 1 then (some (x2, g3)) else none))
  else (if x1 = 1 then
    Option.bind (reader_beginTest g) (fun (x5, g6) => (if x5 = 0 ∨ x5 = 1 then (some (x5, g6)) else none))
  else (if x1 = 2 then
    Option.bind (reader_takeFact g) (fun (x8, g9) => (if x8 = 0 ∨ x8 = 1 then (some (x8, g9)) else none))
  else (if x1 = 3 then
    Option.bind (reader_takeSign g) (fun (x11, g12) => (if x11 = 0 ∨ x11 = 1 then (some (x11, g12)) else none))
  else (if x1 = 4 then
    Option.bind (reader_takeLimit g) (fun (x14, g15) => (if x14 = 0 ∨ x14 = 1 then (some (x14, g15)) else none))
  else (if x1 = 5 then
    Option.bind (reader_takeAnd g) (fun (x17, g18) => (if x17 = 0 ∨ x17 = 1 then (some (x17, g18)) else none))
  else (if x1 = 6 then
    Option.bind (reader_takeAct g) (fun (x20, g21) => (if x20 = 0 ∨ x20 = 1 then (some (x20, g21)) else none))
  else (if x1 = 7 then
    Option.bind (reader_takeActNumber g) (fun (x23, g24) => (if x23 = 0 ∨ x23 = 1 then (some (x23, g24)) else none))
  else lt1 (up2 g 191 3 0) (fun g26 => (if ¬ (g26 191 6) = 14 then
    (some (0, g26))
  else
    (some (1, g26)))))))))))))
theorem e_reader_goesOn {X : Xx} {d : Nat} (hd : 5 ≤ d)  (g : Sg) : ∀ r, reader_goesOn  g = some r → EvM zft mtl X d 48 [.ref 191] (SHF, g) ((fun r : Int32 × Sg => ((some (.int r.1), (SHF, r.2)) : Out)) r) := by
  obtain ⟨d, rfl⟩ : ∃ d0, d = d0 + 1 := ⟨d - 1, by omega⟩
  have hd : 4 ≤ d := by omega
  refine E_in (f := (fun r : Int32 × Sg => ((some (.int r.1), (SHF, r.2)) : Out))) rfl (Nat.le_of_ble_eq_true rfl) ?_
  unfold reader_goesOn
  change Lt X d (some .boolean) k_48 _ 0 [some (.ref 191)] [] g _
  refine L_s (pc' := 1) rfl rfl ?_
  refine L_gf (pc' := 4) rfl fi_191_3 rfl ?_
  refine L_li fun x1 _ => ?_
  refine L_if (fun h4 => ?_) (fun h4 => ?_)
  · subst h4
    refine L_ts (t := 52) (off := 48) rfl (by decide) rfl ?_
    refine L_s (pc' := 53) rfl rfl ?_
    refine L_cig (pc' := 56) (as := [.ref 191]) (rest := []) rfl rfl (e_reader_beginLine (by omega) _) rfl fun x2 g3 => ?_
    exact L_g fun h => L_ret rfl (ret_z h) rfl
  refine L_if (fun h7 => ?_) (fun h7 => ?_)
  · subst h7
    refine L_ts (t := 57) (off := 53) rfl (by decide) rfl ?_
    refine L_s (pc' := 58) rfl rfl ?_
    refine L_cig (pc' := 61) (as := [.ref 191]) (rest := []) rfl rfl (e_reader_beginTest (by omega) _) rfl fun x5 g6 => ?_
    exact L_g fun h => L_ret rfl (ret_z h) rfl
  refine L_if (fun h10 => ?_) (fun h10 => ?_)
  · subst h10
    refine L_ts (t := 62) (off := 58) rfl (by decide) rfl ?_
    refine L_s (pc' := 63) rfl rfl ?_
    refine L_cig (pc' := 66) (as := [.ref 191]) (rest := []) rfl rfl (e_reader_takeFact (by omega) _) rfl fun x8 g9 => ?_
    exact L_g fun h => L_ret rfl (ret_z h) rfl
  refine L_if (fun h13 => ?_) (fun h13 => ?_)
  · subst h13
    refine L_ts (t := 67) (off := 63) rfl (by decide) rfl ?_
    refine L_s (pc' := 68) rfl rfl ?_
    refine L_cig (pc' := 71) (as := [.ref 191]) (rest := []) rfl rfl (e_reader_takeSign (by omega) _) rfl fun x11 g12 => ?_
    exact L_g fun h => L_ret rfl (ret_z h) rfl
  refine L_if (fun h16 => ?_) (fun h16 => ?_)
  · subst h16
    refine L_ts (t := 72) (off := 68) rfl (by decide) rfl ?_
    refine L_s (pc' := 73) rfl rfl ?_
    refine L_cig (pc' := 76) (as := [.ref 191]) (rest := []) rfl rfl (e_reader_takeLimit (by omega) _) rfl fun x14 g15 => ?_
    exact L_g fun h => L_ret rfl (ret_z h) rfl
  refine L_if (fun h19 => ?_) (fun h19 => ?_)
  · subst h19
    refine L_ts (t := 77) (off := 73) rfl (by decide) rfl ?_
    refine L_s (pc' := 78) rfl rfl ?_
    refine L_cig (pc' := 81) (as := [.ref 191]) (rest := []) rfl rfl (e_reader_takeAnd (by omega) _) rfl fun x17 g18 => ?_
    exact L_g fun h => L_ret rfl (ret_z h) rfl
  refine L_if (fun h22 => ?_) (fun h22 => ?_)
  · subst h22
    refine L_ts (t := 82) (off := 78) rfl (by decide) rfl ?_
    refine L_s (pc' := 83) rfl rfl ?_
    refine L_cig (pc' := 86) (as := [.ref 191]) (rest := []) rfl rfl (e_reader_takeAct (by omega) _) rfl fun x20 g21 => ?_
    exact L_g fun h => L_ret rfl (ret_z h) rfl
  refine L_if (fun h25 => ?_) (fun h25 => ?_)
  · subst h25
    refine L_ts (t := 87) (off := 83) rfl (by decide) rfl ?_
    refine L_s (pc' := 88) rfl rfl ?_
    refine L_cig (pc' := 91) (as := [.ref 191]) (rest := []) rfl rfl (e_reader_takeActNumber (by omega) _) rfl fun x23 g24 => ?_
    exact L_g fun h => L_ret rfl (ret_z h) rfl
  refine L_ts (off := 88) (t := 92) rfl (twf_out (n := 8) (by decide) (by decide) (fun j hj => by
    match j, hj with
    | 0, _ => exact fun e => h4 (e.trans (by decide))
    | 1, _ => exact fun e => h7 (e.trans (by decide))
    | 2, _ => exact fun e => h10 (e.trans (by decide))
    | 3, _ => exact fun e => h13 (e.trans (by decide))
    | 4, _ => exact fun e => h16 (e.trans (by decide))
    | 5, _ => exact fun e => h19 (e.trans (by decide))
    | 6, _ => exact fun e => h22 (e.trans (by decide))
    | 7, _ => exact fun e => h25 (e.trans (by decide))
    | j + 8, hj => exact absurd hj (by omega))) rfl ?_
  refine L_s (pc' := 93) rfl rfl ?_
  refine L_ic (pc' := 94) rfl q1_0 rfl ?_
  refine L_pf (pc' := 97) rfl sh_191 (by decide) rfl rfl ?_
  refine L_let fun g26 _ => ?_
  refine L_s (pc' := 98) rfl rfl ?_
  refine L_gf (pc' := 101) rfl fi_191_6 rfl ?_
  refine L_bi (pc' := 103) rfl q2_14 rfl ?_
  refine L_br (t := 110) (n := 106) rfl rfl (fun _ => ?_) (fun _ => ?_)
  · refine L_ic (pc' := 111) rfl q1_0 rfl ?_
    exact L_ret rfl (ret_z (by decide)) rfl
  · refine L_ic (pc' := 107) rfl q1_1 rfl ?_
    refine L_s (pc' := 111) rfl rfl ?_
    exact L_ret rfl (ret_z (by decide)) rfl
def reader_read_67 (k_38 : Int32 → Int32 → Sg → Option (Sg)) (v3 : Int32) (v4 : Int32) (g : Sg) : Option (Sg) :=
  Option.bind (reader_goesOn g) (fun (x1, g2) => (if ¬ x1 = 0 then
    (k_38 v3 (v4 + 1) g2)
  else
    lt1 (up2 g2 191 1 1) (fun g3 => lt1 (up2 g3 191 2 (g3 191 5)) (fun g4 => (some g4)))))
def reader_read_38 (F : Nat) : Nat → Int32 → Int32 → Sg → Option (Sg)
  | 0, _, _, _ => none
  | n + 1, v3, v4, g =>
    (if v3 < v4 then
      (some g)
    else
      Option.bind (reader_nextToken F v3 g) (fun g1 => (if ¬ (g1 191 6) = 19 then
        (reader_read_67 (fun v3 v4 g0 => reader_read_38 F n v3 v4 g0) v3 v4 g1)
      else
        (if ¬ (g1 191 3) = 0 then
          (reader_read_67 (fun v3 v4 g0 => reader_read_38 F n v3 v4 g0) v3 v4 g1)
        else
          (some g1)))))
def reader_read (F : Nat) (v2 : Int32) (g : Sg) : Option (Sg) :=
  lt1 ((if 500 < v2 then 500 else v2) : Int32) (fun x1 => lt1 (up2 g 192 0 0) (fun g2 => lt1 (up2 g2 191 1 0) (fun g3 => lt1 (up2 g3 191 2 (-1)) (fun g4 => lt1 (up2 g4 191 3 0) (fun g5 => lt1 (up2 g5 191 4 0) (fun g6 => (reader_read_38 F F x1 0 g6)))))))
theorem p_reader_read_67 {X : Xx} {d : Nat} {k_38 : Int32 → Int32 → Sg → Option (Sg)} (hd : 8 ≤ d) (hk_38 : ∀ (v3 : Int32) (v4 : Int32) (g : Sg), Lt X d none k_44 (fun r : Sg => ((none, (SHF, r)) : Out)) 38 [some (.ref 191), some (.ref 32), none, some (.int v3), some (.int v4)] [] g (k_38 v3 v4 g)) (v3 : Int32) (v4 : Int32) (g : Sg) : Lt X d none k_44 (fun r : Sg => ((none, (SHF, r)) : Out)) 67 [some (.ref 191), some (.ref 32), none, some (.int v3), some (.int v4)] [] g (reader_read_67 k_38 v3 v4 g) := by
  unfold reader_read_67
  refine L_s (pc' := 68) rfl rfl ?_
  refine L_cig (pc' := 71) (as := [.ref 191]) (rest := []) rfl rfl (e_reader_goesOn (by omega) _) rfl fun x1 g2 => ?_
  refine L_br (t := 88) (n := 74) rfl rfl (fun _ => ?_) (fun _ => ?_)
  · refine L_ii (pc' := 91) (L' := [some (.ref 191), some (.ref 32), none, some (.int v3), some (.int (v4 + 1))]) rfl rfl q1_1 rfl rfl rfl ?_
    refine L_s (pc' := 38) rfl rfl ?_
    exact hk_38 _ _ _
  · refine L_s (pc' := 75) rfl rfl ?_
    refine L_ic (pc' := 76) rfl q1_1 rfl ?_
    refine L_pf (pc' := 79) rfl sh_191 (by decide) rfl rfl ?_
    refine L_let fun g3 _ => ?_
    refine L_s (pc' := 80) rfl rfl ?_
    refine L_s (pc' := 81) rfl rfl ?_
    refine L_gf (pc' := 84) rfl fi_191_5 rfl ?_
    refine L_pf (pc' := 87) rfl sh_191 (by decide) rfl rfl ?_
    refine L_let fun g4 _ => ?_
    exact L_ret rfl rfl rfl
theorem p_reader_read_38 {X : Xx} {d : Nat} (hd : 8 ≤ d) (F : Nat) : ∀ (n : Nat) (v3 : Int32) (v4 : Int32) (g : Sg), Lt X d none k_44 (fun r : Sg => ((none, (SHF, r)) : Out)) 38 [some (.ref 191), some (.ref 32), none, some (.int v3), some (.int v4)] [] g (reader_read_38 F n v3 v4 g) := by
  intro n
  induction n with
  | zero => intros; exact L_none
  | succ n ih =>
    intro v3 v4 g
    show Lt X d none k_44 (fun r : Sg => ((none, (SHF, r)) : Out)) 38 [some (.ref 191), some (.ref 32), none, some (.int v3), some (.int v4)] [] g (
      (if v3 < v4 then
        (some g)
      else
        Option.bind (reader_nextToken F v3 g) (fun g1 => (if ¬ (g1 191 6) = 19 then
          (reader_read_67 (fun v3 v4 g0 => reader_read_38 F n v3 v4 g0) v3 v4 g1)
        else
          (if ¬ (g1 191 3) = 0 then
            (reader_read_67 (fun v3 v4 g0 => reader_read_38 F n v3 v4 g0) v3 v4 g1)
          else
            (some g1))))))
    refine L_s (pc' := 40) rfl rfl ?_
    refine L_s (pc' := 41) rfl rfl ?_
    refine L_br (t := 94) (n := 44) rfl rfl (fun _ => ?_) (fun _ => ?_)
    · exact L_ret rfl rfl rfl
    · refine L_s (pc' := 45) rfl rfl ?_
      refine L_s (pc' := 46) rfl rfl ?_
      refine L_s (pc' := 47) rfl rfl ?_
      refine L_cv (pc' := 50) (as := [.ref 191, .ref 32, .int v3]) (rest := []) rfl rfl (e_reader_nextToken (by omega) F _ _) rfl fun g1 => ?_
      refine L_s (pc' := 51) rfl rfl ?_
      refine L_gf (pc' := 54) rfl fi_191_6 rfl ?_
      refine L_bi (pc' := 56) rfl q2_19 rfl ?_
      refine L_br (t := 67) (n := 59) rfl rfl (fun _ => ?_) (fun _ => ?_)
      · exact p_reader_read_67 hd (fun _ _ _ => ih _ _ _) _ _ _
      · refine L_s (pc' := 60) rfl rfl ?_
        refine L_gf (pc' := 63) rfl fi_191_3 rfl ?_
        refine L_br (t := 67) (n := 66) rfl rfl (fun _ => ?_) (fun _ => ?_)
        · exact p_reader_read_67 hd (fun _ _ _ => ih _ _ _) _ _ _
        · exact L_ret rfl rfl rfl
theorem e_reader_read {X : Xx} {d : Nat} (hd : 9 ≤ d) (F : Nat) (v2 : Int32) (g : Sg) : ∀ r, reader_read F v2 g = some r → EvM zft mtl X d 44 [.ref 191, .ref 32, .int v2] (SHF, g) ((fun r : Sg => ((none, (SHF, r)) : Out)) r) := by
  obtain ⟨d, rfl⟩ : ∃ d0, d = d0 + 1 := ⟨d - 1, by omega⟩
  have hd : 8 ≤ d := by omega
  refine E_in (f := (fun r : Sg => ((none, (SHF, r)) : Out))) rfl (Nat.le_of_ble_eq_true rfl) ?_
  unfold reader_read
  change Lt X d none k_44 _ 0 [some (.ref 191), some (.ref 32), some (.int v2), none, none] [] g _
  refine L_s (pc' := 1) rfl rfl ?_
  refine L_s (pc' := 2) rfl rfl ?_
  refine L_s (pc' := 3) (st' := [.int 500, .int v2]) rfl rfl ?_
  refine L_s (pc' := 6) rfl rfl ?_
  refine L_li fun x1 _ => ?_
  refine L_s (pc' := 7) (L' := [some (.ref 191), some (.ref 32), some (.int v2), some (.int x1), none]) rfl rfl ?_
  refine L_s (pc' := 8) rfl rfl ?_
  refine L_gf (pc' := 11) rfl fr_191_0 rfl ?_
  refine L_ic (pc' := 12) rfl q1_0 rfl ?_
  refine L_pf (pc' := 15) rfl sh_192 (by decide) rfl rfl ?_
  refine L_let fun g2 _ => ?_
  refine L_s (pc' := 16) rfl rfl ?_
  refine L_ic (pc' := 17) rfl q1_0 rfl ?_
  refine L_pf (pc' := 20) rfl sh_191 (by decide) rfl rfl ?_
  refine L_let fun g3 _ => ?_
  refine L_s (pc' := 21) rfl rfl ?_
  refine L_ic (pc' := 22) rfl q1_m1 rfl ?_
  refine L_pf (pc' := 25) rfl sh_191 (by decide) rfl rfl ?_
  refine L_let fun g4 _ => ?_
  refine L_s (pc' := 26) rfl rfl ?_
  refine L_ic (pc' := 27) rfl q1_0 rfl ?_
  refine L_pf (pc' := 30) rfl sh_191 (by decide) rfl rfl ?_
  refine L_let fun g5 _ => ?_
  refine L_s (pc' := 31) rfl rfl ?_
  refine L_ic (pc' := 32) rfl q1_0 rfl ?_
  refine L_pf (pc' := 35) rfl sh_191 (by decide) rfl rfl ?_
  refine L_let fun g6 _ => ?_
  refine L_ic (pc' := 36) rfl q1_0 rfl ?_
  refine L_s (pc' := 38) (L' := [some (.ref 191), some (.ref 32), some (.int v2), some (.int x1), some (.int 0)]) rfl rfl ?_
  refine L_wk (L' := [some (.ref 191), some (.ref 32), none, some (.int x1), some (.int 0)]) (wk_s (wk_s (wk_n (wk_s (wk_s wk_nil))))) ?_
  exact p_reader_read_38 hd F F _ _ _
def x_copyInts  (g : Sg) : Option (Sg) :=
  lt1 (cp2 g 193 0 34 0 (Int32.toNatClampNeg 16)) (fun g1 => (some g1))
theorem e_x_copyInts {X : Xx} {d : Nat} (hd : 1 ≤ d)  (g : Sg) : ∀ r, x_copyInts  g = some r → EvM zft mtl X d 145 [.ref 193, .ref 34] (SHF, g) ((fun r : Sg => ((none, (SHF, r)) : Out)) r) := by
  obtain ⟨d, rfl⟩ : ∃ d0, d = d0 + 1 := ⟨d - 1, by omega⟩
  have hd : 0 ≤ d := by omega
  refine E_in (f := (fun r : Sg => ((none, (SHF, r)) : Out))) rfl (Nat.le_of_ble_eq_true rfl) ?_
  unfold x_copyInts
  change Lt X d none k_145 _ 0 [some (.ref 193), some (.ref 34)] [] g _
  refine L_s (pc' := 1) rfl rfl ?_
  refine L_ic (pc' := 2) rfl q1_0 rfl ?_
  refine L_s (pc' := 3) rfl rfl ?_
  refine L_ic (pc' := 4) rfl q1_0 rfl ?_
  refine L_s (pc' := 5) rfl rfl ?_
  refine L_s (pc' := 6) (st' := [.int 16, .int 0, .ref 34, .int 0, .ref 193]) rfl rfl ?_
  refine L_s (pc' := 7) rfl rfl ?_
  refine L_s (pc' := 8) (st' := [.int 16, .int 16, .int 0, .ref 34, .int 0, .ref 193]) rfl rfl ?_
  refine L_s (pc' := 11) rfl rfl ?_
  refine L_e (b := 16) (by decide) ?_
  refine L_cp (pc' := 14) rfl sh_193 sh_34 (by decide) (by decide) (by decide) (by decide) rfl rfl ?_
  refine L_let fun g1 _ => ?_
  exact L_ret rfl rfl rfl
def x_copyInts_c1  (g : Sg) : Option (Sg) :=
  lt1 (cp2 g 194 0 35 0 (Int32.toNatClampNeg 16)) (fun g1 => (some g1))
theorem e_x_copyInts_c1 {X : Xx} {d : Nat} (hd : 1 ≤ d)  (g : Sg) : ∀ r, x_copyInts_c1  g = some r → EvM zft mtl X d 145 [.ref 194, .ref 35] (SHF, g) ((fun r : Sg => ((none, (SHF, r)) : Out)) r) := by
  obtain ⟨d, rfl⟩ : ∃ d0, d = d0 + 1 := ⟨d - 1, by omega⟩
  have hd : 0 ≤ d := by omega
  refine E_in (f := (fun r : Sg => ((none, (SHF, r)) : Out))) rfl (Nat.le_of_ble_eq_true rfl) ?_
  unfold x_copyInts_c1
  change Lt X d none k_145 _ 0 [some (.ref 194), some (.ref 35)] [] g _
  refine L_s (pc' := 1) rfl rfl ?_
  refine L_ic (pc' := 2) rfl q1_0 rfl ?_
  refine L_s (pc' := 3) rfl rfl ?_
  refine L_ic (pc' := 4) rfl q1_0 rfl ?_
  refine L_s (pc' := 5) rfl rfl ?_
  refine L_s (pc' := 6) (st' := [.int 16, .int 0, .ref 35, .int 0, .ref 194]) rfl rfl ?_
  refine L_s (pc' := 7) rfl rfl ?_
  refine L_s (pc' := 8) (st' := [.int 16, .int 16, .int 0, .ref 35, .int 0, .ref 194]) rfl rfl ?_
  refine L_s (pc' := 11) rfl rfl ?_
  refine L_e (b := 16) (by decide) ?_
  refine L_cp (pc' := 14) rfl sh_194 sh_35 (by decide) (by decide) (by decide) (by decide) rfl rfl ?_
  refine L_let fun g1 _ => ?_
  exact L_ret rfl rfl rfl
def x_copyInts_c2  (g : Sg) : Option (Sg) :=
  lt1 (cp2 g 195 0 36 0 (Int32.toNatClampNeg 16)) (fun g1 => (some g1))
theorem e_x_copyInts_c2 {X : Xx} {d : Nat} (hd : 1 ≤ d)  (g : Sg) : ∀ r, x_copyInts_c2  g = some r → EvM zft mtl X d 145 [.ref 195, .ref 36] (SHF, g) ((fun r : Sg => ((none, (SHF, r)) : Out)) r) := by
  obtain ⟨d, rfl⟩ : ∃ d0, d = d0 + 1 := ⟨d - 1, by omega⟩
  have hd : 0 ≤ d := by omega
  refine E_in (f := (fun r : Sg => ((none, (SHF, r)) : Out))) rfl (Nat.le_of_ble_eq_true rfl) ?_
  unfold x_copyInts_c2
  change Lt X d none k_145 _ 0 [some (.ref 195), some (.ref 36)] [] g _
  refine L_s (pc' := 1) rfl rfl ?_
  refine L_ic (pc' := 2) rfl q1_0 rfl ?_
  refine L_s (pc' := 3) rfl rfl ?_
  refine L_ic (pc' := 4) rfl q1_0 rfl ?_
  refine L_s (pc' := 5) rfl rfl ?_
  refine L_s (pc' := 6) (st' := [.int 16, .int 0, .ref 36, .int 0, .ref 195]) rfl rfl ?_
  refine L_s (pc' := 7) rfl rfl ?_
  refine L_s (pc' := 8) (st' := [.int 16, .int 16, .int 0, .ref 36, .int 0, .ref 195]) rfl rfl ?_
  refine L_s (pc' := 11) rfl rfl ?_
  refine L_e (b := 16) (by decide) ?_
  refine L_cp (pc' := 14) rfl sh_195 sh_36 (by decide) (by decide) (by decide) (by decide) rfl rfl ?_
  refine L_let fun g1 _ => ?_
  exact L_ret rfl rfl rfl
def x_copyFlags  (g : Sg) : Option (Sg) :=
  lt1 (cp2 g 196 0 37 0 (Int32.toNatClampNeg 64)) (fun g1 => (some g1))
theorem e_x_copyFlags {X : Xx} {d : Nat} (hd : 1 ≤ d)  (g : Sg) : ∀ r, x_copyFlags  g = some r → EvM zft mtl X d 147 [.ref 196, .ref 37] (SHF, g) ((fun r : Sg => ((none, (SHF, r)) : Out)) r) := by
  obtain ⟨d, rfl⟩ : ∃ d0, d = d0 + 1 := ⟨d - 1, by omega⟩
  have hd : 0 ≤ d := by omega
  refine E_in (f := (fun r : Sg => ((none, (SHF, r)) : Out))) rfl (Nat.le_of_ble_eq_true rfl) ?_
  unfold x_copyFlags
  change Lt X d none k_147 _ 0 [some (.ref 196), some (.ref 37)] [] g _
  refine L_s (pc' := 1) rfl rfl ?_
  refine L_ic (pc' := 2) rfl q1_0 rfl ?_
  refine L_s (pc' := 3) rfl rfl ?_
  refine L_ic (pc' := 4) rfl q1_0 rfl ?_
  refine L_s (pc' := 5) rfl rfl ?_
  refine L_s (pc' := 6) (st' := [.int 64, .int 0, .ref 37, .int 0, .ref 196]) rfl rfl ?_
  refine L_s (pc' := 7) rfl rfl ?_
  refine L_s (pc' := 8) (st' := [.int 64, .int 64, .int 0, .ref 37, .int 0, .ref 196]) rfl rfl ?_
  refine L_s (pc' := 11) rfl rfl ?_
  refine L_e (b := 64) (by decide) ?_
  refine L_cp (pc' := 14) rfl sh_196 sh_37 (by decide) (by decide) (by decide) (by decide) rfl rfl ?_
  refine L_let fun g1 _ => ?_
  exact L_ret rfl rfl rfl
def x_copyInts_c3  (g : Sg) : Option (Sg) :=
  lt1 (cp2 g 197 0 38 0 (Int32.toNatClampNeg 64)) (fun g1 => (some g1))
theorem e_x_copyInts_c3 {X : Xx} {d : Nat} (hd : 1 ≤ d)  (g : Sg) : ∀ r, x_copyInts_c3  g = some r → EvM zft mtl X d 145 [.ref 197, .ref 38] (SHF, g) ((fun r : Sg => ((none, (SHF, r)) : Out)) r) := by
  obtain ⟨d, rfl⟩ : ∃ d0, d = d0 + 1 := ⟨d - 1, by omega⟩
  have hd : 0 ≤ d := by omega
  refine E_in (f := (fun r : Sg => ((none, (SHF, r)) : Out))) rfl (Nat.le_of_ble_eq_true rfl) ?_
  unfold x_copyInts_c3
  change Lt X d none k_145 _ 0 [some (.ref 197), some (.ref 38)] [] g _
  refine L_s (pc' := 1) rfl rfl ?_
  refine L_ic (pc' := 2) rfl q1_0 rfl ?_
  refine L_s (pc' := 3) rfl rfl ?_
  refine L_ic (pc' := 4) rfl q1_0 rfl ?_
  refine L_s (pc' := 5) rfl rfl ?_
  refine L_s (pc' := 6) (st' := [.int 64, .int 0, .ref 38, .int 0, .ref 197]) rfl rfl ?_
  refine L_s (pc' := 7) rfl rfl ?_
  refine L_s (pc' := 8) (st' := [.int 64, .int 64, .int 0, .ref 38, .int 0, .ref 197]) rfl rfl ?_
  refine L_s (pc' := 11) rfl rfl ?_
  refine L_e (b := 64) (by decide) ?_
  refine L_cp (pc' := 14) rfl sh_197 sh_38 (by decide) (by decide) (by decide) (by decide) rfl rfl ?_
  refine L_let fun g1 _ => ?_
  exact L_ret rfl rfl rfl
def x_copyInts_c4  (g : Sg) : Option (Sg) :=
  lt1 (cp2 g 198 0 39 0 (Int32.toNatClampNeg 64)) (fun g1 => (some g1))
theorem e_x_copyInts_c4 {X : Xx} {d : Nat} (hd : 1 ≤ d)  (g : Sg) : ∀ r, x_copyInts_c4  g = some r → EvM zft mtl X d 145 [.ref 198, .ref 39] (SHF, g) ((fun r : Sg => ((none, (SHF, r)) : Out)) r) := by
  obtain ⟨d, rfl⟩ : ∃ d0, d = d0 + 1 := ⟨d - 1, by omega⟩
  have hd : 0 ≤ d := by omega
  refine E_in (f := (fun r : Sg => ((none, (SHF, r)) : Out))) rfl (Nat.le_of_ble_eq_true rfl) ?_
  unfold x_copyInts_c4
  change Lt X d none k_145 _ 0 [some (.ref 198), some (.ref 39)] [] g _
  refine L_s (pc' := 1) rfl rfl ?_
  refine L_ic (pc' := 2) rfl q1_0 rfl ?_
  refine L_s (pc' := 3) rfl rfl ?_
  refine L_ic (pc' := 4) rfl q1_0 rfl ?_
  refine L_s (pc' := 5) rfl rfl ?_
  refine L_s (pc' := 6) (st' := [.int 64, .int 0, .ref 39, .int 0, .ref 198]) rfl rfl ?_
  refine L_s (pc' := 7) rfl rfl ?_
  refine L_s (pc' := 8) (st' := [.int 64, .int 64, .int 0, .ref 39, .int 0, .ref 198]) rfl rfl ?_
  refine L_s (pc' := 11) rfl rfl ?_
  refine L_e (b := 64) (by decide) ?_
  refine L_cp (pc' := 14) rfl sh_198 sh_39 (by decide) (by decide) (by decide) (by decide) rfl rfl ?_
  refine L_let fun g1 _ => ?_
  exact L_ret rfl rfl rfl
def x_copyInts_c5  (g : Sg) : Option (Sg) :=
  lt1 (cp2 g 199 0 40 0 (Int32.toNatClampNeg 64)) (fun g1 => (some g1))
theorem e_x_copyInts_c5 {X : Xx} {d : Nat} (hd : 1 ≤ d)  (g : Sg) : ∀ r, x_copyInts_c5  g = some r → EvM zft mtl X d 145 [.ref 199, .ref 40] (SHF, g) ((fun r : Sg => ((none, (SHF, r)) : Out)) r) := by
  obtain ⟨d, rfl⟩ : ∃ d0, d = d0 + 1 := ⟨d - 1, by omega⟩
  have hd : 0 ≤ d := by omega
  refine E_in (f := (fun r : Sg => ((none, (SHF, r)) : Out))) rfl (Nat.le_of_ble_eq_true rfl) ?_
  unfold x_copyInts_c5
  change Lt X d none k_145 _ 0 [some (.ref 199), some (.ref 40)] [] g _
  refine L_s (pc' := 1) rfl rfl ?_
  refine L_ic (pc' := 2) rfl q1_0 rfl ?_
  refine L_s (pc' := 3) rfl rfl ?_
  refine L_ic (pc' := 4) rfl q1_0 rfl ?_
  refine L_s (pc' := 5) rfl rfl ?_
  refine L_s (pc' := 6) (st' := [.int 64, .int 0, .ref 40, .int 0, .ref 199]) rfl rfl ?_
  refine L_s (pc' := 7) rfl rfl ?_
  refine L_s (pc' := 8) (st' := [.int 64, .int 64, .int 0, .ref 40, .int 0, .ref 199]) rfl rfl ?_
  refine L_s (pc' := 11) rfl rfl ?_
  refine L_e (b := 64) (by decide) ?_
  refine L_cp (pc' := 14) rfl sh_199 sh_40 (by decide) (by decide) (by decide) (by decide) rfl rfl ?_
  refine L_let fun g1 _ => ?_
  exact L_ret rfl rfl rfl
def lines_copyFrom  (g : Sg) : Option (Sg) :=
  lt1 (up2 g 33 0 (g 192 0)) (fun g1 => Option.bind (x_copyInts g1) (fun g2 => Option.bind (x_copyInts_c1 g2) (fun g3 => Option.bind (x_copyInts_c2 g3) (fun g4 => Option.bind (x_copyFlags g4) (fun g5 => Option.bind (x_copyInts_c3 g5) (fun g6 => Option.bind (x_copyInts_c4 g6) (fun g7 => Option.bind (x_copyInts_c5 g7) (fun g8 => (some g8)))))))))
theorem e_lines_copyFrom {X : Xx} {d : Nat} (hd : 2 ≤ d)  (g : Sg) : ∀ r, lines_copyFrom  g = some r → EvM zft mtl X d 20 [.ref 33, .ref 192] (SHF, g) ((fun r : Sg => ((none, (SHF, r)) : Out)) r) := by
  obtain ⟨d, rfl⟩ : ∃ d0, d = d0 + 1 := ⟨d - 1, by omega⟩
  have hd : 1 ≤ d := by omega
  refine E_in (f := (fun r : Sg => ((none, (SHF, r)) : Out))) rfl (Nat.le_of_ble_eq_true rfl) ?_
  unfold lines_copyFrom
  change Lt X d none k_20 _ 0 [some (.ref 33), some (.ref 192)] [] g _
  refine L_s (pc' := 1) rfl rfl ?_
  refine L_s (pc' := 2) rfl rfl ?_
  refine L_gf (pc' := 5) rfl fi_192_0 rfl ?_
  refine L_pf (pc' := 8) rfl sh_33 (by decide) rfl rfl ?_
  refine L_let fun g1 _ => ?_
  refine L_s (pc' := 9) rfl rfl ?_
  refine L_gf (pc' := 12) rfl fr_192_1 rfl ?_
  refine L_s (pc' := 13) rfl rfl ?_
  refine L_gf (pc' := 16) rfl fr_33_1 rfl ?_
  refine L_cv (pc' := 19) (as := [.ref 193, .ref 34]) (rest := []) rfl rfl (e_x_copyInts (by omega) _) rfl fun g2 => ?_
  refine L_s (pc' := 20) rfl rfl ?_
  refine L_gf (pc' := 23) rfl fr_192_2 rfl ?_
  refine L_s (pc' := 24) rfl rfl ?_
  refine L_gf (pc' := 27) rfl fr_33_2 rfl ?_
  refine L_cv (pc' := 30) (as := [.ref 194, .ref 35]) (rest := []) rfl rfl (e_x_copyInts_c1 (by omega) _) rfl fun g3 => ?_
  refine L_s (pc' := 31) rfl rfl ?_
  refine L_gf (pc' := 34) rfl fr_192_3 rfl ?_
  refine L_s (pc' := 35) rfl rfl ?_
  refine L_gf (pc' := 38) rfl fr_33_3 rfl ?_
  refine L_cv (pc' := 41) (as := [.ref 195, .ref 36]) (rest := []) rfl rfl (e_x_copyInts_c2 (by omega) _) rfl fun g4 => ?_
  refine L_s (pc' := 42) rfl rfl ?_
  refine L_gf (pc' := 45) rfl fr_192_4 rfl ?_
  refine L_s (pc' := 46) rfl rfl ?_
  refine L_gf (pc' := 49) rfl fr_33_4 rfl ?_
  refine L_cv (pc' := 52) (as := [.ref 196, .ref 37]) (rest := []) rfl rfl (e_x_copyFlags (by omega) _) rfl fun g5 => ?_
  refine L_s (pc' := 53) rfl rfl ?_
  refine L_gf (pc' := 56) rfl fr_192_5 rfl ?_
  refine L_s (pc' := 57) rfl rfl ?_
  refine L_gf (pc' := 60) rfl fr_33_5 rfl ?_
  refine L_cv (pc' := 63) (as := [.ref 197, .ref 38]) (rest := []) rfl rfl (e_x_copyInts_c3 (by omega) _) rfl fun g6 => ?_
  refine L_s (pc' := 64) rfl rfl ?_
  refine L_gf (pc' := 67) rfl fr_192_6 rfl ?_
  refine L_s (pc' := 68) rfl rfl ?_
  refine L_gf (pc' := 71) rfl fr_33_6 rfl ?_
  refine L_cv (pc' := 74) (as := [.ref 198, .ref 39]) (rest := []) rfl rfl (e_x_copyInts_c4 (by omega) _) rfl fun g7 => ?_
  refine L_s (pc' := 75) rfl rfl ?_
  refine L_gf (pc' := 78) rfl fr_192_7 rfl ?_
  refine L_s (pc' := 79) rfl rfl ?_
  refine L_gf (pc' := 82) rfl fr_33_7 rfl ?_
  refine L_cv (pc' := 85) (as := [.ref 199, .ref 40]) (rest := []) rfl rfl (e_x_copyInts_c5 (by omega) _) rfl fun g8 => ?_
  exact L_ret rfl rfl rfl
def x_statute (F : Nat)  (g : Sg) : Option (Int32 × Sg) :=
  Option.bind (reader_read F (g 31 0) g) (fun g1 => lt1 (up2 g1 31 0 0) (fun g2 => lt1 (up2 g2 31 2 (g2 191 1)) (fun g3 => lt1 (up2 g3 31 3 (g3 191 2)) (fun g4 => (if (g4 191 1) = 0 then
    Option.bind (lines_copyFrom g4) (fun g5 => (some ((g5 33 0), g5)))
  else
    (some ((-1), g4)))))))
theorem e_x_statute {X : Xx} {d : Nat} (hd : 10 ≤ d) (F : Nat)  (g : Sg) : ∀ r, x_statute F  g = some r → EvM zft mtl X d 127 [.ref 0] (SHF, g) ((fun r : Int32 × Sg => ((some (.int r.1), (SHF, r.2)) : Out)) r) := by
  obtain ⟨d, rfl⟩ : ∃ d0, d = d0 + 1 := ⟨d - 1, by omega⟩
  have hd : 9 ≤ d := by omega
  refine E_in (f := (fun r : Int32 × Sg => ((some (.int r.1), (SHF, r.2)) : Out))) rfl (Nat.le_of_ble_eq_true rfl) ?_
  unfold x_statute
  change Lt X d (some .int) k_127 _ 0 [some (.ref 0), none] [] g _
  refine L_s (pc' := 1) rfl rfl ?_
  refine L_gf (pc' := 4) rfl fr_0_0 rfl ?_
  refine L_gf (pc' := 7) rfl fr_1_2 rfl ?_
  refine L_s (pc' := 8) (L' := [some (.ref 0), some (.ref 31)]) rfl rfl ?_
  refine L_s (pc' := 9) rfl rfl ?_
  refine L_gf (pc' := 12) rfl fr_0_4 rfl ?_
  refine L_s (pc' := 13) rfl rfl ?_
  refine L_gf (pc' := 16) rfl fr_31_1 rfl ?_
  refine L_s (pc' := 17) rfl rfl ?_
  refine L_gf (pc' := 20) rfl fi_31_0 rfl ?_
  refine L_cv (pc' := 23) (as := [.ref 191, .ref 32, .int (g 31 0)]) (rest := []) rfl rfl (e_reader_read (by omega) F _ _) rfl fun g1 => ?_
  refine L_s (pc' := 24) rfl rfl ?_
  refine L_ic (pc' := 25) rfl q1_0 rfl ?_
  refine L_pf (pc' := 28) rfl sh_31 (by decide) rfl rfl ?_
  refine L_let fun g2 _ => ?_
  refine L_s (pc' := 29) rfl rfl ?_
  refine L_s (pc' := 30) rfl rfl ?_
  refine L_gf (pc' := 33) rfl fr_0_4 rfl ?_
  refine L_gf (pc' := 36) rfl fi_191_1 rfl ?_
  refine L_pf (pc' := 39) rfl sh_31 (by decide) rfl rfl ?_
  refine L_let fun g3 _ => ?_
  refine L_s (pc' := 40) rfl rfl ?_
  refine L_s (pc' := 41) rfl rfl ?_
  refine L_gf (pc' := 44) rfl fr_0_4 rfl ?_
  refine L_gf (pc' := 47) rfl fi_191_2 rfl ?_
  refine L_pf (pc' := 50) rfl sh_31 (by decide) rfl rfl ?_
  refine L_let fun g4 _ => ?_
  refine L_s (pc' := 51) rfl rfl ?_
  refine L_gf (pc' := 54) rfl fr_0_4 rfl ?_
  refine L_gf (pc' := 57) rfl fi_191_1 rfl ?_
  refine L_br (t := 62) (n := 60) rfl rfl (fun _ => ?_) (fun _ => ?_)
  · refine L_s (pc' := 63) rfl rfl ?_
    refine L_gf (pc' := 66) rfl fr_31_4 rfl ?_
    refine L_s (pc' := 67) rfl rfl ?_
    refine L_gf (pc' := 70) rfl fr_0_4 rfl ?_
    refine L_gf (pc' := 73) rfl fr_191_0 rfl ?_
    refine L_cv (pc' := 76) (as := [.ref 33, .ref 192]) (rest := []) rfl rfl (e_lines_copyFrom (by omega) _) rfl fun g5 => ?_
    refine L_s (pc' := 77) rfl rfl ?_
    refine L_gf (pc' := 80) rfl fr_31_4 rfl ?_
    refine L_gf (pc' := 83) rfl fi_33_0 rfl ?_
    exact L_ret rfl ret_i rfl
  · refine L_ic (pc' := 61) rfl q1_m1 rfl ?_
    exact L_ret rfl ret_i rfl
def x_fault (v1 : Int32) (g : Sg) : Option (Int32) :=
  (if v1 = 0 then
    (some (g 31 2))
  else (if v1 = 1 then
    (some (g 31 3))
  else (some (-1))))
theorem e_x_fault {X : Xx} {d : Nat} (hd : 1 ≤ d) (v1 : Int32) (g : Sg) : ∀ r, x_fault v1 g = some r → EvM zft mtl X d 128 [.ref 0, .int v1] (SHF, g) ((fun r : Int32 => ((some (.int r), (SHF, g)) : Out)) r) := by
  obtain ⟨d, rfl⟩ : ∃ d0, d = d0 + 1 := ⟨d - 1, by omega⟩
  have hd : 0 ≤ d := by omega
  refine E_in (f := (fun r : Int32 => ((some (.int r), (SHF, g)) : Out))) rfl (Nat.le_of_ble_eq_true rfl) ?_
  unfold x_fault
  change Lt X d (some .int) k_128 _ 0 [some (.ref 0), some (.int v1)] [] g _
  refine L_s (pc' := 1) rfl rfl ?_
  refine L_if (fun h1 => ?_) (fun h1 => ?_)
  · subst h1
    refine L_ls (t := 28) (off := 27) rfl (by decide) rfl ?_
    refine L_s (pc' := 29) rfl rfl ?_
    refine L_gf (pc' := 32) rfl fr_0_0 rfl ?_
    refine L_gf (pc' := 35) rfl fr_1_2 rfl ?_
    refine L_gf (pc' := 38) rfl fi_31_2 rfl ?_
    exact L_ret rfl ret_i rfl
  refine L_if (fun h2 => ?_) (fun h2 => ?_)
  · subst h2
    refine L_ls (t := 39) (off := 38) rfl (by decide) rfl ?_
    refine L_s (pc' := 40) rfl rfl ?_
    refine L_gf (pc' := 43) rfl fr_0_0 rfl ?_
    refine L_gf (pc' := 46) rfl fr_1_2 rfl ?_
    refine L_gf (pc' := 49) rfl fi_31_3 rfl ?_
    exact L_ret rfl ret_i rfl
  refine L_ls (off := 49) (t := 50) rfl (lwf_out (by decide) (fun q hq => by
    simp only [List.mem_cons, List.not_mem_nil, or_false] at hq
    rcases hq with rfl | rfl
    · exact fun e => h1 (Int32.toInt_inj.mp (e.trans (by decide)))
    · exact fun e => h2 (Int32.toInt_inj.mp (e.trans (by decide))))) rfl ?_
  refine L_ic (pc' := 51) rfl q1_m1 rfl ?_
  exact L_ret rfl ret_i rfl
def x_dry (v1 : Int32) (v2 : Int32) (g : Sg) : Option (Int32 × Sg) :=
  Option.bind (x_isWeek v1 g) (fun x1 => (if x1 = 0 then
    (some (0, g))
  else
    (if inb v1 100 = true then (if ¬ (g 41 (Int32.toNatClampNeg v1)) = v2 then
      (if inb v1 100 = true then lt1 (up2 g 41 (Int32.toNatClampNeg v1) (v2 &&& 1)) (fun g2 => (some (1, g2))) else none)
    else
      (some (0, g))) else none)))
theorem e_x_dry {X : Xx} {d : Nat} (hd : 3 ≤ d) (v1 : Int32) (v2 : Int32) (g : Sg) : ∀ r, x_dry v1 v2 g = some r → EvM zft mtl X d 129 [.ref 0, .int v1, .int v2] (SHF, g) ((fun r : Int32 × Sg => ((some (.int r.1), (SHF, r.2)) : Out)) r) := by
  obtain ⟨d, rfl⟩ : ∃ d0, d = d0 + 1 := ⟨d - 1, by omega⟩
  have hd : 2 ≤ d := by omega
  refine E_in (f := (fun r : Int32 × Sg => ((some (.int r.1), (SHF, r.2)) : Out))) rfl (Nat.le_of_ble_eq_true rfl) ?_
  unfold x_dry
  change Lt X d (some .boolean) k_129 _ 0 [some (.ref 0), some (.int v1), some (.int v2)] [] g _
  refine L_s (pc' := 1) rfl rfl ?_
  refine L_ci (pc' := 4) (as := [.int v1]) (rest := []) rfl rfl (e_x_isWeek (by omega) _ _) rfl fun x1 => ?_
  refine L_br (t := 23) (n := 7) rfl rfl (fun _ => ?_) (fun _ => ?_)
  · refine L_ic (pc' := 24) rfl q1_0 rfl ?_
    exact L_ret rfl (ret_z (by decide)) rfl
  · refine L_s (pc' := 8) rfl rfl ?_
    refine L_gf (pc' := 11) rfl fr_0_0 rfl ?_
    refine L_gf (pc' := 14) rfl fr_1_2 rfl ?_
    refine L_gf (pc' := 17) rfl fr_31_5 rfl ?_
    refine L_s (pc' := 18) rfl rfl ?_
    refine L_rB (pc' := 19) rfl sh_41 (by decide) (by decide) rfl ?_
    refine L_s (pc' := 20) rfl rfl ?_
    refine L_br (t := 25) (n := 23) rfl rfl (fun _ => ?_) (fun _ => ?_)
    · refine L_s (pc' := 26) rfl rfl ?_
      refine L_gf (pc' := 29) rfl fr_0_0 rfl ?_
      refine L_gf (pc' := 32) rfl fr_1_2 rfl ?_
      refine L_gf (pc' := 35) rfl fr_31_5 rfl ?_
      refine L_s (pc' := 36) rfl rfl ?_
      refine L_s (pc' := 37) rfl rfl ?_
      refine L_wZ (pc' := 38) rfl sh_41 (by decide) rfl ?_
      refine L_let fun g2 _ => ?_
      refine L_ic (pc' := 39) rfl q1_1 rfl ?_
      exact L_ret rfl (ret_z (by decide)) rfl
    · refine L_ic (pc' := 24) rfl q1_0 rfl ?_
      exact L_ret rfl (ret_z (by decide)) rfl
def jA_fill_c3_5 : Nat → Int32 → Int32 → Sg → Option (Sg)
  | 0, _, _, _ => none
  | n + 1, v1, v2, g =>
    (if 8 ≤ v2 then
      (some g)
    else
      (if inb v2 8 = true then lt1 (up2 g 202 (Int32.toNatClampNeg v2) v1) (fun g1 => (jA_fill_c3_5 n v1 (v2 + 1) g1)) else none))
def jA_fill_c3 (F : Nat) (v1 : Int32) (g : Sg) : Option (Sg) :=
  (jA_fill_c3_5 F v1 0 g)
theorem p_jA_fill_c3_5 {X : Xx} {d : Nat} (hd : 0 ≤ d) : ∀ (n : Nat) (v1 : Int32) (v2 : Int32) (g : Sg), Lt X d none k_238 (fun r : Sg => ((none, (SHF, r)) : Out)) 5 [some (.ref 202), some (.int v1), some (.int v2), some (.int 8)] [] g (jA_fill_c3_5 n v1 v2 g) := by
  intro n
  induction n with
  | zero => intros; exact L_none
  | succ n ih =>
    intro v1 v2 g
    show Lt X d none k_238 (fun r : Sg => ((none, (SHF, r)) : Out)) 5 [some (.ref 202), some (.int v1), some (.int v2), some (.int 8)] [] g (
      (if 8 ≤ v2 then
        (some g)
      else
        (if inb v2 8 = true then lt1 (up2 g 202 (Int32.toNatClampNeg v2) v1) (fun g1 => (jA_fill_c3_5 n v1 (v2 + 1) g1)) else none)))
    refine L_s (pc' := 6) rfl rfl ?_
    refine L_s (pc' := 7) rfl rfl ?_
    refine L_br (t := 20) (n := 10) rfl rfl (fun _ => ?_) (fun _ => ?_)
    · exact L_ret rfl rfl rfl
    · refine L_s (pc' := 11) rfl rfl ?_
      refine L_s (pc' := 12) rfl rfl ?_
      refine L_s (pc' := 13) rfl rfl ?_
      refine L_wI (pc' := 14) rfl sh_202 (by decide) rfl ?_
      refine L_let fun g1 _ => ?_
      refine L_ii (pc' := 17) (L' := [some (.ref 202), some (.int v1), some (.int (v2 + 1)), some (.int 8)]) rfl rfl q1_1 rfl rfl rfl ?_
      refine L_s (pc' := 5) rfl rfl ?_
      exact ih _ _ _
theorem e_jA_fill_c3 {X : Xx} {d : Nat} (hd : 1 ≤ d) (F : Nat) (v1 : Int32) (g : Sg) : ∀ r, jA_fill_c3 F v1 g = some r → EvM zft mtl X d 238 [.ref 202, .int v1] (SHF, g) ((fun r : Sg => ((none, (SHF, r)) : Out)) r) := by
  obtain ⟨d, rfl⟩ : ∃ d0, d = d0 + 1 := ⟨d - 1, by omega⟩
  have hd : 0 ≤ d := by omega
  refine E_in (f := (fun r : Sg => ((none, (SHF, r)) : Out))) rfl (Nat.le_of_ble_eq_true rfl) ?_
  unfold jA_fill_c3
  change Lt X d none k_238 _ 0 [some (.ref 202), some (.int v1), none, none] [] g _
  refine L_ic (pc' := 1) rfl q1_0 rfl ?_
  refine L_s (pc' := 2) (L' := [some (.ref 202), some (.int v1), some (.int 0), none]) rfl rfl ?_
  refine L_s (pc' := 3) rfl rfl ?_
  refine L_s (pc' := 4) (st' := [.int 8]) rfl rfl ?_
  refine L_s (pc' := 5) (L' := [some (.ref 202), some (.int v1), some (.int 0), some (.int 8)]) rfl rfl ?_
  exact p_jA_fill_c3_5 hd F _ _ _
def jA_fill_c4_5 : Nat → Int32 → Int32 → Sg → Option (Sg)
  | 0, _, _, _ => none
  | n + 1, v1, v2, g =>
    (if 8 ≤ v2 then
      (some g)
    else
      (if inb v2 8 = true then lt1 (up2 g 203 (Int32.toNatClampNeg v2) v1) (fun g1 => (jA_fill_c4_5 n v1 (v2 + 1) g1)) else none))
def jA_fill_c4 (F : Nat) (v1 : Int32) (g : Sg) : Option (Sg) :=
  (jA_fill_c4_5 F v1 0 g)
theorem p_jA_fill_c4_5 {X : Xx} {d : Nat} (hd : 0 ≤ d) : ∀ (n : Nat) (v1 : Int32) (v2 : Int32) (g : Sg), Lt X d none k_238 (fun r : Sg => ((none, (SHF, r)) : Out)) 5 [some (.ref 203), some (.int v1), some (.int v2), some (.int 8)] [] g (jA_fill_c4_5 n v1 v2 g) := by
  intro n
  induction n with
  | zero => intros; exact L_none
  | succ n ih =>
    intro v1 v2 g
    show Lt X d none k_238 (fun r : Sg => ((none, (SHF, r)) : Out)) 5 [some (.ref 203), some (.int v1), some (.int v2), some (.int 8)] [] g (
      (if 8 ≤ v2 then
        (some g)
      else
        (if inb v2 8 = true then lt1 (up2 g 203 (Int32.toNatClampNeg v2) v1) (fun g1 => (jA_fill_c4_5 n v1 (v2 + 1) g1)) else none)))
    refine L_s (pc' := 6) rfl rfl ?_
    refine L_s (pc' := 7) rfl rfl ?_
    refine L_br (t := 20) (n := 10) rfl rfl (fun _ => ?_) (fun _ => ?_)
    · exact L_ret rfl rfl rfl
    · refine L_s (pc' := 11) rfl rfl ?_
      refine L_s (pc' := 12) rfl rfl ?_
      refine L_s (pc' := 13) rfl rfl ?_
      refine L_wI (pc' := 14) rfl sh_203 (by decide) rfl ?_
      refine L_let fun g1 _ => ?_
      refine L_ii (pc' := 17) (L' := [some (.ref 203), some (.int v1), some (.int (v2 + 1)), some (.int 8)]) rfl rfl q1_1 rfl rfl rfl ?_
      refine L_s (pc' := 5) rfl rfl ?_
      exact ih _ _ _
theorem e_jA_fill_c4 {X : Xx} {d : Nat} (hd : 1 ≤ d) (F : Nat) (v1 : Int32) (g : Sg) : ∀ r, jA_fill_c4 F v1 g = some r → EvM zft mtl X d 238 [.ref 203, .int v1] (SHF, g) ((fun r : Sg => ((none, (SHF, r)) : Out)) r) := by
  obtain ⟨d, rfl⟩ : ∃ d0, d = d0 + 1 := ⟨d - 1, by omega⟩
  have hd : 0 ≤ d := by omega
  refine E_in (f := (fun r : Sg => ((none, (SHF, r)) : Out))) rfl (Nat.le_of_ble_eq_true rfl) ?_
  unfold jA_fill_c4
  change Lt X d none k_238 _ 0 [some (.ref 203), some (.int v1), none, none] [] g _
  refine L_ic (pc' := 1) rfl q1_0 rfl ?_
  refine L_s (pc' := 2) (L' := [some (.ref 203), some (.int v1), some (.int 0), none]) rfl rfl ?_
  refine L_s (pc' := 3) rfl rfl ?_
  refine L_s (pc' := 4) (st' := [.int 8]) rfl rfl ?_
  refine L_s (pc' := 5) (L' := [some (.ref 203), some (.int v1), some (.int 0), some (.int 8)]) rfl rfl ?_
  exact p_jA_fill_c4_5 hd F _ _ _
def reckoning_reckonHours_54 : Nat → Int32 → Sg → Option (Sg)
  | 0, _, _ => none
  | n + 1, v3, g =>
    (if 168 ≤ v3 then
      (some g)
    else
      (if inb v3 168 = true then lt1 ((g 207 (Int32.toNatClampNeg v3)) : Int32) (fun x1 => Option.bind (x_isHolder x1 g) (fun x2 => (if x2 = 0 then
        (reckoning_reckonHours_54 n (v3 + 1) g)
      else
        lt1 ((v3 - v3 / 24 * 24) : Int32) (fun x3 => (if inb x1 8 = true then (if inb x1 8 = true then lt1 (up2 g 202 (Int32.toNatClampNeg x1) ((g 202 (Int32.toNatClampNeg x1)) + 1)) (fun g4 => (if inb x1 8 = true then (if x3 < 6 then
          (if inb x1 8 = true then lt1 (up2 g4 203 (Int32.toNatClampNeg x1) ((g4 203 (Int32.toNatClampNeg x1)) + 1)) (fun g5 => (reckoning_reckonHours_54 n (v3 + 1) g5)) else none)
        else
          (if x3 < 18 then
            (if inb x1 8 = true then lt1 (up2 g4 203 (Int32.toNatClampNeg x1) ((g4 203 (Int32.toNatClampNeg x1)) + 0)) (fun g6 => (reckoning_reckonHours_54 n (v3 + 1) g6)) else none)
          else
            (if inb x1 8 = true then lt1 (up2 g4 203 (Int32.toNatClampNeg x1) ((g4 203 (Int32.toNatClampNeg x1)) + 1)) (fun g7 => (reckoning_reckonHours_54 n (v3 + 1) g7)) else none))) else none)) else none) else none))))) else none))
def reckoning_reckonHours_26 (F : Nat) : Nat → Int32 → Int32 → Sg → Option (Sg)
  | 0, _, _, _ => none
  | n + 1, v2, v3, g =>
    (if v2 < v3 then
      (reckoning_reckonHours_54 F 0 g)
    else
      (if 100 ≤ v3 then
        (reckoning_reckonHours_54 F 0 g)
      else
        Option.bind (rights_layOver F v3 g) (fun g1 => (reckoning_reckonHours_26 F n v2 (v3 + 1) g1))))
def reckoning_reckonHours (F : Nat) (v2 : Int32) (g : Sg) : Option (Sg) :=
  Option.bind (jA_fill_c3 F 0 g) (fun g1 => Option.bind (jA_fill_c4 F 0 g1) (fun g2 => Option.bind (jA_fill_c2 F (-1) g2) (fun g3 => (reckoning_reckonHours_26 F F v2 0 g3))))
theorem p_reckoning_reckonHours_54 {X : Xx} {d : Nat} (hd : 2 ≤ d) : ∀ (n : Nat) (v3 : Int32) (g : Sg), Lt X d none k_63 (fun r : Sg => ((none, (SHF, r)) : Out)) 54 [some (.ref 200), none, none, some (.int v3), none, none] [] g (reckoning_reckonHours_54 n v3 g) := by
  intro n
  induction n with
  | zero => intros; exact L_none
  | succ n ih =>
    intro v3 g
    show Lt X d none k_63 (fun r : Sg => ((none, (SHF, r)) : Out)) 54 [some (.ref 200), none, none, some (.int v3), none, none] [] g (
      (if 168 ≤ v3 then
        (some g)
      else
        (if inb v3 168 = true then lt1 ((g 207 (Int32.toNatClampNeg v3)) : Int32) (fun x1 => Option.bind (x_isHolder x1 g) (fun x2 => (if x2 = 0 then
          (reckoning_reckonHours_54 n (v3 + 1) g)
        else
          lt1 ((v3 - v3 / 24 * 24) : Int32) (fun x3 => (if inb x1 8 = true then (if inb x1 8 = true then lt1 (up2 g 202 (Int32.toNatClampNeg x1) ((g 202 (Int32.toNatClampNeg x1)) + 1)) (fun g4 => (if inb x1 8 = true then (if x3 < 6 then
            (if inb x1 8 = true then lt1 (up2 g4 203 (Int32.toNatClampNeg x1) ((g4 203 (Int32.toNatClampNeg x1)) + 1)) (fun g5 => (reckoning_reckonHours_54 n (v3 + 1) g5)) else none)
          else
            (if x3 < 18 then
              (if inb x1 8 = true then lt1 (up2 g4 203 (Int32.toNatClampNeg x1) ((g4 203 (Int32.toNatClampNeg x1)) + 0)) (fun g6 => (reckoning_reckonHours_54 n (v3 + 1) g6)) else none)
            else
              (if inb x1 8 = true then lt1 (up2 g4 203 (Int32.toNatClampNeg x1) ((g4 203 (Int32.toNatClampNeg x1)) + 1)) (fun g7 => (reckoning_reckonHours_54 n (v3 + 1) g7)) else none))) else none)) else none) else none))))) else none)))
    refine L_s (pc' := 55) rfl rfl ?_
    refine L_si (pc' := 58) rfl q3_168 rfl ?_
    refine L_br (t := 129) (n := 61) rfl rfl (fun _ => ?_) (fun _ => ?_)
    · exact L_ret rfl rfl rfl
    · refine L_s (pc' := 62) rfl rfl ?_
      refine L_gf (pc' := 65) rfl fr_200_6 rfl ?_
      refine L_s (pc' := 66) rfl rfl ?_
      refine L_rI (pc' := 67) rfl sh_207 (by decide) rfl ?_
      refine L_li fun x1 _ => ?_
      refine L_s (pc' := 69) (L' := [some (.ref 200), none, none, some (.int v3), some (.int x1), none]) rfl rfl ?_
      refine L_s (pc' := 71) rfl rfl ?_
      refine L_ci (pc' := 74) (as := [.int x1]) (rest := []) rfl rfl (e_x_isHolder (by omega) _ _) rfl fun x2 => ?_
      refine L_br (t := 123) (n := 77) rfl rfl (fun _ => ?_) (fun _ => ?_)
      · refine L_ii (pc' := 126) (L' := [some (.ref 200), none, none, some (.int (v3 + 1)), some (.int x1), none]) rfl rfl q1_1 rfl rfl rfl ?_
        refine L_s (pc' := 54) rfl rfl ?_
        refine L_wk (L' := [some (.ref 200), none, none, some (.int (v3 + 1)), none, none]) (wk_s (wk_s (wk_s (wk_s (wk_n (wk_s wk_nil)))))) ?_
        exact ih _ _
      · refine L_s (pc' := 78) rfl rfl ?_
        refine L_bi (pc' := 80) rfl q2_24 rfl ?_
        refine L_rmk (pc' := 81) rfl (by decide) rfl ?_
        refine L_li fun x3 _ => ?_
        refine L_s (pc' := 83) (L' := [some (.ref 200), none, none, some (.int v3), some (.int x1), some (.int x3)]) rfl rfl ?_
        refine L_s (pc' := 84) rfl rfl ?_
        refine L_gf (pc' := 87) rfl fr_200_1 rfl ?_
        refine L_s (pc' := 89) rfl rfl ?_
        refine L_s (pc' := 90) rfl rfl ?_
        refine L_rI (pc' := 91) rfl sh_202 (by decide) rfl ?_
        refine L_ic (pc' := 92) rfl q1_1 rfl ?_
        refine L_s (pc' := 93) rfl rfl ?_
        refine L_wI (pc' := 94) rfl sh_202 (by decide) rfl ?_
        refine L_let fun g4 _ => ?_
        refine L_s (pc' := 95) rfl rfl ?_
        refine L_gf (pc' := 98) rfl fr_200_2 rfl ?_
        refine L_s (pc' := 100) rfl rfl ?_
        refine L_s (pc' := 101) rfl rfl ?_
        refine L_rI (pc' := 102) rfl sh_203 (by decide) rfl ?_
        refine L_s (pc' := 104) rfl rfl ?_
        refine L_bi (pc' := 106) rfl q2_6 rfl ?_
        refine L_br (t := 116) (n := 109) rfl rfl (fun _ => ?_) (fun _ => ?_)
        · refine L_ic (pc' := 117) rfl q1_1 rfl ?_
          refine L_s (pc' := 121) rfl rfl ?_
          refine L_s (pc' := 122) rfl rfl ?_
          refine L_wI (pc' := 123) rfl sh_203 (by decide) rfl ?_
          refine L_let fun g5 _ => ?_
          refine L_ii (pc' := 126) (L' := [some (.ref 200), none, none, some (.int (v3 + 1)), some (.int x1), some (.int x3)]) rfl rfl q1_1 rfl rfl rfl ?_
          refine L_s (pc' := 54) rfl rfl ?_
          refine L_wk (L' := [some (.ref 200), none, none, some (.int (v3 + 1)), none, none]) (wk_s (wk_s (wk_s (wk_s (wk_n (wk_n wk_nil)))))) ?_
          exact ih _ _
        · refine L_s (pc' := 111) rfl rfl ?_
          refine L_bi (pc' := 113) rfl q2_18 rfl ?_
          refine L_br (t := 120) (n := 116) rfl rfl (fun _ => ?_) (fun _ => ?_)
          · refine L_ic (pc' := 121) rfl q1_0 rfl ?_
            refine L_s (pc' := 122) rfl rfl ?_
            refine L_wI (pc' := 123) rfl sh_203 (by decide) rfl ?_
            refine L_let fun g6 _ => ?_
            refine L_ii (pc' := 126) (L' := [some (.ref 200), none, none, some (.int (v3 + 1)), some (.int x1), some (.int x3)]) rfl rfl q1_1 rfl rfl rfl ?_
            refine L_s (pc' := 54) rfl rfl ?_
            refine L_wk (L' := [some (.ref 200), none, none, some (.int (v3 + 1)), none, none]) (wk_s (wk_s (wk_s (wk_s (wk_n (wk_n wk_nil)))))) ?_
            exact ih _ _
          · refine L_ic (pc' := 117) rfl q1_1 rfl ?_
            refine L_s (pc' := 121) rfl rfl ?_
            refine L_s (pc' := 122) rfl rfl ?_
            refine L_wI (pc' := 123) rfl sh_203 (by decide) rfl ?_
            refine L_let fun g7 _ => ?_
            refine L_ii (pc' := 126) (L' := [some (.ref 200), none, none, some (.int (v3 + 1)), some (.int x1), some (.int x3)]) rfl rfl q1_1 rfl rfl rfl ?_
            refine L_s (pc' := 54) rfl rfl ?_
            refine L_wk (L' := [some (.ref 200), none, none, some (.int (v3 + 1)), none, none]) (wk_s (wk_s (wk_s (wk_s (wk_n (wk_n wk_nil)))))) ?_
            exact ih _ _
theorem p_reckoning_reckonHours_26 {X : Xx} {d : Nat} (hd : 2 ≤ d) (F : Nat) : ∀ (n : Nat) (v2 : Int32) (v3 : Int32) (g : Sg), Lt X d none k_63 (fun r : Sg => ((none, (SHF, r)) : Out)) 26 [some (.ref 200), some (.ref 22), some (.int v2), some (.int v3), none, none] [] g (reckoning_reckonHours_26 F n v2 v3 g) := by
  intro n
  induction n with
  | zero => intros; exact L_none
  | succ n ih =>
    intro v2 v3 g
    show Lt X d none k_63 (fun r : Sg => ((none, (SHF, r)) : Out)) 26 [some (.ref 200), some (.ref 22), some (.int v2), some (.int v3), none, none] [] g (
      (if v2 < v3 then
        (reckoning_reckonHours_54 F 0 g)
      else
        (if 100 ≤ v3 then
          (reckoning_reckonHours_54 F 0 g)
        else
          Option.bind (rights_layOver F v3 g) (fun g1 => (reckoning_reckonHours_26 F n v2 (v3 + 1) g1)))))
    refine L_s (pc' := 27) rfl rfl ?_
    refine L_s (pc' := 28) rfl rfl ?_
    refine L_br (t := 52) (n := 31) rfl rfl (fun _ => ?_) (fun _ => ?_)
    · refine L_ic (pc' := 53) rfl q1_0 rfl ?_
      refine L_s (pc' := 54) (L' := [some (.ref 200), some (.ref 22), some (.int v2), some (.int 0), none, none]) rfl rfl ?_
      refine L_wk (L' := [some (.ref 200), none, none, some (.int 0), none, none]) (wk_s (wk_n (wk_n (wk_s (wk_s (wk_s wk_nil)))))) ?_
      exact p_reckoning_reckonHours_54 hd F _ _
    · refine L_s (pc' := 32) rfl rfl ?_
      refine L_bi (pc' := 34) rfl q2_100 rfl ?_
      refine L_br (t := 52) (n := 37) rfl rfl (fun _ => ?_) (fun _ => ?_)
      · refine L_ic (pc' := 53) rfl q1_0 rfl ?_
        refine L_s (pc' := 54) (L' := [some (.ref 200), some (.ref 22), some (.int v2), some (.int 0), none, none]) rfl rfl ?_
        refine L_wk (L' := [some (.ref 200), none, none, some (.int 0), none, none]) (wk_s (wk_n (wk_n (wk_s (wk_s (wk_s wk_nil)))))) ?_
        exact p_reckoning_reckonHours_54 hd F _ _
      · refine L_s (pc' := 38) rfl rfl ?_
        refine L_s (pc' := 39) rfl rfl ?_
        refine L_s (pc' := 40) rfl rfl ?_
        refine L_gf (pc' := 43) rfl fr_200_6 rfl ?_
        refine L_cv (pc' := 46) (as := [.ref 22, .int v3, .ref 207]) (rest := []) rfl rfl (e_rights_layOver (by omega) F _ _) rfl fun g1 => ?_
        refine L_ii (pc' := 49) (L' := [some (.ref 200), some (.ref 22), some (.int v2), some (.int (v3 + 1)), none, none]) rfl rfl q1_1 rfl rfl rfl ?_
        refine L_s (pc' := 26) rfl rfl ?_
        exact ih _ _ _
theorem e_reckoning_reckonHours {X : Xx} {d : Nat} (hd : 3 ≤ d) (F : Nat) (v2 : Int32) (g : Sg) : ∀ r, reckoning_reckonHours F v2 g = some r → EvM zft mtl X d 63 [.ref 200, .ref 22, .int v2] (SHF, g) ((fun r : Sg => ((none, (SHF, r)) : Out)) r) := by
  obtain ⟨d, rfl⟩ : ∃ d0, d = d0 + 1 := ⟨d - 1, by omega⟩
  have hd : 2 ≤ d := by omega
  refine E_in (f := (fun r : Sg => ((none, (SHF, r)) : Out))) rfl (Nat.le_of_ble_eq_true rfl) ?_
  unfold reckoning_reckonHours
  change Lt X d none k_63 _ 0 [some (.ref 200), some (.ref 22), some (.int v2), none, none, none] [] g _
  refine L_s (pc' := 1) rfl rfl ?_
  refine L_gf (pc' := 4) rfl fr_200_1 rfl ?_
  refine L_ic (pc' := 5) rfl q1_0 rfl ?_
  refine L_cv (pc' := 8) (as := [.ref 202, .int 0]) (rest := []) rfl rfl (e_jA_fill_c3 (by omega) F _ _) rfl fun g1 => ?_
  refine L_s (pc' := 9) rfl rfl ?_
  refine L_gf (pc' := 12) rfl fr_200_2 rfl ?_
  refine L_ic (pc' := 13) rfl q1_0 rfl ?_
  refine L_cv (pc' := 16) (as := [.ref 203, .int 0]) (rest := []) rfl rfl (e_jA_fill_c4 (by omega) F _ _) rfl fun g2 => ?_
  refine L_s (pc' := 17) rfl rfl ?_
  refine L_gf (pc' := 20) rfl fr_200_6 rfl ?_
  refine L_ic (pc' := 21) rfl q1_m1 rfl ?_
  refine L_cv (pc' := 24) (as := [.ref 207, .int (-1)]) (rest := []) rfl rfl (e_jA_fill_c2 (by omega) F _ _) rfl fun g3 => ?_
  refine L_ic (pc' := 25) rfl q1_0 rfl ?_
  refine L_s (pc' := 26) (L' := [some (.ref 200), some (.ref 22), some (.int v2), some (.int 0), none, none]) rfl rfl ?_
  exact p_reckoning_reckonHours_26 hd F F _ _ _
def reckoning_factOf (v1 : Int32) (v2 : Int32) (g : Sg) : Option (Int32) :=
  (if v1 = 8 then
    (if inb v2 8 = true then (some (g 202 (Int32.toNatClampNeg v2))) else none)
  else (if v1 = 9 then
    (if inb v2 8 = true then (some (g 203 (Int32.toNatClampNeg v2))) else none)
  else (if v1 = 10 then
    (if inb v2 8 = true then (some (g 204 (Int32.toNatClampNeg v2))) else none)
  else (if v1 = 11 then
    (some v2)
  else (if v1 = 12 then
    (if inb v2 8 = true then (some (if 0 < (g 201 (Int32.toNatClampNeg v2)) then (g 201 (Int32.toNatClampNeg v2)) else 0)) else none)
  else (if (g 200 7) = 0 then
    (some 0)
  else
    (some 1)))))))
theorem e_reckoning_factOf {X : Xx} {d : Nat} (hd : 1 ≤ d) (v1 : Int32) (v2 : Int32) (g : Sg) : ∀ r, reckoning_factOf v1 v2 g = some r → EvM zft mtl X d 67 [.ref 200, .int v1, .int v2] (SHF, g) ((fun r : Int32 => ((some (.int r), (SHF, g)) : Out)) r) := by
  obtain ⟨d, rfl⟩ : ∃ d0, d = d0 + 1 := ⟨d - 1, by omega⟩
  have hd : 0 ≤ d := by omega
  refine E_in (f := (fun r : Int32 => ((some (.int r), (SHF, g)) : Out))) rfl (Nat.le_of_ble_eq_true rfl) ?_
  unfold reckoning_factOf
  change Lt X d (some .int) k_67 _ 0 [some (.ref 200), some (.int v1), some (.int v2)] [] g _
  refine L_s (pc' := 1) rfl rfl ?_
  refine L_if (fun h1 => ?_) (fun h1 => ?_)
  · subst h1
    refine L_ts (t := 36) (off := 35) rfl (by decide) rfl ?_
    refine L_s (pc' := 37) rfl rfl ?_
    refine L_gf (pc' := 40) rfl fr_200_1 rfl ?_
    refine L_s (pc' := 41) rfl rfl ?_
    refine L_rI (pc' := 42) rfl sh_202 (by decide) rfl ?_
    exact L_ret rfl ret_i rfl
  refine L_if (fun h2 => ?_) (fun h2 => ?_)
  · subst h2
    refine L_ts (t := 43) (off := 42) rfl (by decide) rfl ?_
    refine L_s (pc' := 44) rfl rfl ?_
    refine L_gf (pc' := 47) rfl fr_200_2 rfl ?_
    refine L_s (pc' := 48) rfl rfl ?_
    refine L_rI (pc' := 49) rfl sh_203 (by decide) rfl ?_
    exact L_ret rfl ret_i rfl
  refine L_if (fun h3 => ?_) (fun h3 => ?_)
  · subst h3
    refine L_ts (t := 50) (off := 49) rfl (by decide) rfl ?_
    refine L_s (pc' := 51) rfl rfl ?_
    refine L_gf (pc' := 54) rfl fr_200_3 rfl ?_
    refine L_s (pc' := 55) rfl rfl ?_
    refine L_rI (pc' := 56) rfl sh_204 (by decide) rfl ?_
    exact L_ret rfl ret_i rfl
  refine L_if (fun h4 => ?_) (fun h4 => ?_)
  · subst h4
    refine L_ts (t := 57) (off := 56) rfl (by decide) rfl ?_
    refine L_s (pc' := 58) rfl rfl ?_
    exact L_ret rfl ret_i rfl
  refine L_if (fun h5 => ?_) (fun h5 => ?_)
  · subst h5
    refine L_ts (t := 59) (off := 58) rfl (by decide) rfl ?_
    refine L_ic (pc' := 60) rfl q1_0 rfl ?_
    refine L_s (pc' := 61) rfl rfl ?_
    refine L_gf (pc' := 64) rfl fr_200_0 rfl ?_
    refine L_s (pc' := 65) rfl rfl ?_
    refine L_rI (pc' := 66) rfl sh_201 (by decide) rfl ?_
    refine L_s (pc' := 69) rfl rfl ?_
    exact L_ret rfl ret_i rfl
  refine L_ts (off := 69) (t := 70) rfl (twf_out (n := 5) (by decide) (by decide) (fun j hj => by
    match j, hj with
    | 0, _ => exact fun e => h1 (e.trans (by decide))
    | 1, _ => exact fun e => h2 (e.trans (by decide))
    | 2, _ => exact fun e => h3 (e.trans (by decide))
    | 3, _ => exact fun e => h4 (e.trans (by decide))
    | 4, _ => exact fun e => h5 (e.trans (by decide))
    | j + 5, hj => exact absurd hj (by omega))) rfl ?_
  refine L_s (pc' := 71) rfl rfl ?_
  refine L_gf (pc' := 74) rfl fi_200_7 rfl ?_
  refine L_br (t := 81) (n := 77) rfl rfl (fun _ => ?_) (fun _ => ?_)
  · refine L_ic (pc' := 82) rfl q1_0 rfl ?_
    exact L_ret rfl ret_i rfl
  · refine L_ic (pc' := 78) rfl q1_1 rfl ?_
    refine L_s (pc' := 82) rfl rfl ?_
    exact L_ret rfl ret_i rfl
def reckoning_holds_100 (v2 : Int32) (v6 : Int32) (g : Sg) : Option (Int32) :=
  (if inb v2 64 = true then (if v6 = (g 37 (Int32.toNatClampNeg v2)) then
    (some 0)
  else
    (some 1)) else none)
def reckoning_holds_64 (v2 : Int32) (s0 : Int32) (g : Sg) : Option (Int32) :=
  (reckoning_holds_100 v2 s0 g)
def reckoning_holds_81 (v2 : Int32) (s0 : Int32) (g : Sg) : Option (Int32) :=
  (reckoning_holds_100 v2 s0 g)
def reckoning_holds_98 (v2 : Int32) (s0 : Int32) (g : Sg) : Option (Int32) :=
  (reckoning_holds_100 v2 s0 g)
def reckoning_holds (v2 : Int32) (v3 : Int32) (g : Sg) : Option (Int32) :=
  (if inb v2 64 = true then Option.bind (reckoning_factOf (g 38 (Int32.toNatClampNeg v2)) v3 g) (fun x1 => (if inb v2 64 = true then lt1 ((g 40 (Int32.toNatClampNeg v2)) : Int32) (fun x2 => (if inb v2 64 = true then lt1 ((g 39 (Int32.toNatClampNeg v2)) : Int32) (fun x3 => (if x3 = 15 then
    (if x2 ≤ x1 then
      (reckoning_holds_64 v2 0 g)
    else
      (reckoning_holds_64 v2 1 g))
  else (if x3 = 16 then
    (if x1 ≤ x2 then
      (reckoning_holds_81 v2 0 g)
    else
      (reckoning_holds_81 v2 1 g))
  else (if ¬ x1 = x2 then
    (reckoning_holds_98 v2 0 g)
  else
    (reckoning_holds_98 v2 1 g))))) else none)) else none)) else none)
theorem p_reckoning_holds_100 {X : Xx} {d : Nat} {g : Sg} (hd : 1 ≤ d) (v2 : Int32) (v6 : Int32) : Lt X d (some .boolean) k_66 (fun r : Int32 => ((some (.int r), (SHF, g)) : Out)) 100 [none, some (.ref 33), some (.int v2), none, none, none, some (.int v6)] [] g (reckoning_holds_100 v2 v6 g) := by
  unfold reckoning_holds_100
  refine L_s (pc' := 102) rfl rfl ?_
  refine L_s (pc' := 103) rfl rfl ?_
  refine L_gf (pc' := 106) rfl fr_33_4 rfl ?_
  refine L_s (pc' := 107) rfl rfl ?_
  refine L_rB (pc' := 108) rfl sh_37 (by decide) (by decide) rfl ?_
  refine L_br (t := 115) (n := 111) rfl rfl (fun _ => ?_) (fun _ => ?_)
  · refine L_ic (pc' := 116) rfl q1_0 rfl ?_
    exact L_ret rfl (ret_z (by decide)) rfl
  · refine L_ic (pc' := 112) rfl q1_1 rfl ?_
    refine L_s (pc' := 116) rfl rfl ?_
    exact L_ret rfl (ret_z (by decide)) rfl
theorem p_reckoning_holds_64 {X : Xx} {d : Nat} {g : Sg} (hd : 1 ≤ d) (v2 : Int32) (s0 : Int32) : Lt X d (some .boolean) k_66 (fun r : Int32 => ((some (.int r), (SHF, g)) : Out)) 64 [none, some (.ref 33), some (.int v2), none, none, none, none] [.int s0] g (reckoning_holds_64 v2 s0 g) := by
  unfold reckoning_holds_64
  refine L_s (pc' := 66) (L' := [none, some (.ref 33), some (.int v2), none, none, none, some (.int s0)]) rfl rfl ?_
  refine L_s (pc' := 100) rfl rfl ?_
  exact p_reckoning_holds_100 hd _ _
theorem p_reckoning_holds_81 {X : Xx} {d : Nat} {g : Sg} (hd : 1 ≤ d) (v2 : Int32) (s0 : Int32) : Lt X d (some .boolean) k_66 (fun r : Int32 => ((some (.int r), (SHF, g)) : Out)) 81 [none, some (.ref 33), some (.int v2), none, none, none, none] [.int s0] g (reckoning_holds_81 v2 s0 g) := by
  unfold reckoning_holds_81
  refine L_s (pc' := 83) (L' := [none, some (.ref 33), some (.int v2), none, none, none, some (.int s0)]) rfl rfl ?_
  refine L_s (pc' := 100) rfl rfl ?_
  exact p_reckoning_holds_100 hd _ _
theorem p_reckoning_holds_98 {X : Xx} {d : Nat} {g : Sg} (hd : 1 ≤ d) (v2 : Int32) (s0 : Int32) : Lt X d (some .boolean) k_66 (fun r : Int32 => ((some (.int r), (SHF, g)) : Out)) 98 [none, some (.ref 33), some (.int v2), none, none, none, none] [.int s0] g (reckoning_holds_98 v2 s0 g) := by
  unfold reckoning_holds_98
  refine L_s (pc' := 100) (L' := [none, some (.ref 33), some (.int v2), none, none, none, some (.int s0)]) rfl rfl ?_
  exact p_reckoning_holds_100 hd _ _
theorem e_reckoning_holds {X : Xx} {d : Nat} (hd : 2 ≤ d) (v2 : Int32) (v3 : Int32) (g : Sg) : ∀ r, reckoning_holds v2 v3 g = some r → EvM zft mtl X d 66 [.ref 200, .ref 33, .int v2, .int v3] (SHF, g) ((fun r : Int32 => ((some (.int r), (SHF, g)) : Out)) r) := by
  obtain ⟨d, rfl⟩ : ∃ d0, d = d0 + 1 := ⟨d - 1, by omega⟩
  have hd : 1 ≤ d := by omega
  refine E_in (f := (fun r : Int32 => ((some (.int r), (SHF, g)) : Out))) rfl (Nat.le_of_ble_eq_true rfl) ?_
  unfold reckoning_holds
  change Lt X d (some .boolean) k_66 _ 0 [some (.ref 200), some (.ref 33), some (.int v2), some (.int v3), none, none, none] [] g _
  refine L_s (pc' := 1) rfl rfl ?_
  refine L_s (pc' := 2) rfl rfl ?_
  refine L_gf (pc' := 5) rfl fr_33_5 rfl ?_
  refine L_s (pc' := 6) rfl rfl ?_
  refine L_rI (pc' := 7) rfl sh_38 (by decide) rfl ?_
  refine L_s (pc' := 8) rfl rfl ?_
  refine L_ci (pc' := 11) (as := [.ref 200, .int (g 38 (Int32.toNatClampNeg v2)), .int v3]) (rest := []) rfl rfl (e_reckoning_factOf (by omega) _ _ _) rfl fun x1 => ?_
  refine L_s (pc' := 13) (L' := [some (.ref 200), some (.ref 33), some (.int v2), some (.int v3), some (.int x1), none, none]) rfl rfl ?_
  refine L_s (pc' := 14) rfl rfl ?_
  refine L_gf (pc' := 17) rfl fr_33_7 rfl ?_
  refine L_s (pc' := 18) rfl rfl ?_
  refine L_rI (pc' := 19) rfl sh_40 (by decide) rfl ?_
  refine L_li fun x2 _ => ?_
  refine L_s (pc' := 21) (L' := [some (.ref 200), some (.ref 33), some (.int v2), some (.int v3), some (.int x1), some (.int x2), none]) rfl rfl ?_
  refine L_s (pc' := 22) rfl rfl ?_
  refine L_gf (pc' := 25) rfl fr_33_6 rfl ?_
  refine L_s (pc' := 26) rfl rfl ?_
  refine L_rI (pc' := 27) rfl sh_39 (by decide) rfl ?_
  refine L_li fun x3 _ => ?_
  refine L_if (fun h4 => ?_) (fun h4 => ?_)
  · subst h4
    refine L_ls (t := 52) (off := 25) rfl (by decide) rfl ?_
    refine L_s (pc' := 54) rfl rfl ?_
    refine L_s (pc' := 56) rfl rfl ?_
    refine L_br (t := 63) (n := 59) rfl rfl (fun _ => ?_) (fun _ => ?_)
    · refine L_ic (pc' := 64) rfl q1_0 rfl ?_
      refine L_wk (L' := [none, some (.ref 33), some (.int v2), none, none, none, none]) (wk_n (wk_s (wk_s (wk_n (wk_n (wk_n (wk_s wk_nil))))))) ?_
      exact p_reckoning_holds_64 hd _ _
    · refine L_ic (pc' := 60) rfl q1_1 rfl ?_
      refine L_s (pc' := 64) rfl rfl ?_
      refine L_wk (L' := [none, some (.ref 33), some (.int v2), none, none, none, none]) (wk_n (wk_s (wk_s (wk_n (wk_n (wk_n (wk_s wk_nil))))))) ?_
      exact p_reckoning_holds_64 hd _ _
  refine L_if (fun h5 => ?_) (fun h5 => ?_)
  · subst h5
    refine L_ls (t := 69) (off := 42) rfl (by decide) rfl ?_
    refine L_s (pc' := 71) rfl rfl ?_
    refine L_s (pc' := 73) rfl rfl ?_
    refine L_br (t := 80) (n := 76) rfl rfl (fun _ => ?_) (fun _ => ?_)
    · refine L_ic (pc' := 81) rfl q1_0 rfl ?_
      refine L_wk (L' := [none, some (.ref 33), some (.int v2), none, none, none, none]) (wk_n (wk_s (wk_s (wk_n (wk_n (wk_n (wk_s wk_nil))))))) ?_
      exact p_reckoning_holds_81 hd _ _
    · refine L_ic (pc' := 77) rfl q1_1 rfl ?_
      refine L_s (pc' := 81) rfl rfl ?_
      refine L_wk (L' := [none, some (.ref 33), some (.int v2), none, none, none, none]) (wk_n (wk_s (wk_s (wk_n (wk_n (wk_n (wk_s wk_nil))))))) ?_
      exact p_reckoning_holds_81 hd _ _
  refine L_ls (off := 59) (t := 86) rfl (lwf_out (by decide) (fun q hq => by
    simp only [List.mem_cons, List.not_mem_nil, or_false] at hq
    rcases hq with rfl | rfl
    · exact fun e => h4 (Int32.toInt_inj.mp (e.trans (by decide)))
    · exact fun e => h5 (Int32.toInt_inj.mp (e.trans (by decide))))) rfl ?_
  refine L_s (pc' := 88) rfl rfl ?_
  refine L_s (pc' := 90) rfl rfl ?_
  refine L_br (t := 97) (n := 93) rfl rfl (fun _ => ?_) (fun _ => ?_)
  · refine L_ic (pc' := 98) rfl q1_0 rfl ?_
    refine L_wk (L' := [none, some (.ref 33), some (.int v2), none, none, none, none]) (wk_n (wk_s (wk_s (wk_n (wk_n (wk_n (wk_s wk_nil))))))) ?_
    exact p_reckoning_holds_98 hd _ _
  · refine L_ic (pc' := 94) rfl q1_1 rfl ?_
    refine L_s (pc' := 98) rfl rfl ?_
    refine L_wk (L' := [none, some (.ref 33), some (.int v2), none, none, none, none]) (wk_n (wk_s (wk_s (wk_n (wk_n (wk_n (wk_s wk_nil))))))) ?_
    exact p_reckoning_holds_98 hd _ _
def reckoning_allHold_3 : Nat → Int32 → Int32 → Int32 → Sg → Option (Int32)
  | 0, _, _, _, _ => none
  | n + 1, v2, v3, v4, g =>
    (if inb v2 16 = true then (if (g 36 (Int32.toNatClampNeg v2)) ≤ v4 then
      (some 1)
    else
      (if 4 ≤ v4 then
        (some 1)
      else
        Option.bind (reckoning_holds ((v2 * 4) + v4) v3 g) (fun x1 => (if ¬ x1 = 0 then
          (reckoning_allHold_3 n v2 v3 (v4 + 1) g)
        else
          (some 0))))) else none)
def reckoning_allHold (F : Nat) (v2 : Int32) (v3 : Int32) (g : Sg) : Option (Int32) :=
  (reckoning_allHold_3 F v2 v3 0 g)
theorem p_reckoning_allHold_3 {X : Xx} {d : Nat} {g : Sg} (hd : 2 ≤ d) : ∀ (n : Nat) (v2 : Int32) (v3 : Int32) (v4 : Int32), Lt X d (some .boolean) k_65 (fun r : Int32 => ((some (.int r), (SHF, g)) : Out)) 3 [some (.ref 200), some (.ref 33), some (.int v2), some (.int v3), some (.int v4)] [] g (reckoning_allHold_3 n v2 v3 v4 g) := by
  intro n
  induction n with
  | zero => intros; exact L_none
  | succ n ih =>
    intro v2 v3 v4
    show Lt X d (some .boolean) k_65 (fun r : Int32 => ((some (.int r), (SHF, g)) : Out)) 3 [some (.ref 200), some (.ref 33), some (.int v2), some (.int v3), some (.int v4)] [] g (
      (if inb v2 16 = true then (if (g 36 (Int32.toNatClampNeg v2)) ≤ v4 then
        (some 1)
      else
        (if 4 ≤ v4 then
          (some 1)
        else
          Option.bind (reckoning_holds ((v2 * 4) + v4) v3 g) (fun x1 => (if ¬ x1 = 0 then
            (reckoning_allHold_3 n v2 v3 (v4 + 1) g)
          else
            (some 0))))) else none))
    refine L_s (pc' := 5) rfl rfl ?_
    refine L_s (pc' := 6) rfl rfl ?_
    refine L_gf (pc' := 9) rfl fr_33_3 rfl ?_
    refine L_s (pc' := 10) rfl rfl ?_
    refine L_rI (pc' := 11) rfl sh_36 (by decide) rfl ?_
    refine L_br (t := 43) (n := 14) rfl rfl (fun _ => ?_) (fun _ => ?_)
    · refine L_ic (pc' := 44) rfl q1_1 rfl ?_
      exact L_ret rfl (ret_z (by decide)) rfl
    · refine L_s (pc' := 16) rfl rfl ?_
      refine L_ic (pc' := 17) rfl q1_4 rfl ?_
      refine L_br (t := 43) (n := 20) rfl rfl (fun _ => ?_) (fun _ => ?_)
      · refine L_ic (pc' := 44) rfl q1_1 rfl ?_
        exact L_ret rfl (ret_z (by decide)) rfl
      · refine L_s (pc' := 21) rfl rfl ?_
        refine L_s (pc' := 22) rfl rfl ?_
        refine L_s (pc' := 23) rfl rfl ?_
        refine L_ic (pc' := 24) rfl q1_4 rfl ?_
        refine L_s (pc' := 25) rfl rfl ?_
        refine L_s (pc' := 27) rfl rfl ?_
        refine L_s (pc' := 28) rfl rfl ?_
        refine L_s (pc' := 29) rfl rfl ?_
        refine L_ci (pc' := 32) (as := [.ref 200, .ref 33, .int ((v2 * 4) + v4), .int v3]) (rest := []) rfl rfl (e_reckoning_holds (by omega) _ _ _) rfl fun x1 => ?_
        refine L_br (t := 37) (n := 35) rfl rfl (fun _ => ?_) (fun _ => ?_)
        · refine L_ii (pc' := 40) (L' := [some (.ref 200), some (.ref 33), some (.int v2), some (.int v3), some (.int (v4 + 1))]) rfl rfl q1_1 rfl rfl rfl ?_
          refine L_s (pc' := 3) rfl rfl ?_
          exact ih _ _ _
        · refine L_ic (pc' := 36) rfl q1_0 rfl ?_
          exact L_ret rfl (ret_z (by decide)) rfl
theorem e_reckoning_allHold {X : Xx} {d : Nat} (hd : 3 ≤ d) (F : Nat) (v2 : Int32) (v3 : Int32) (g : Sg) : ∀ r, reckoning_allHold F v2 v3 g = some r → EvM zft mtl X d 65 [.ref 200, .ref 33, .int v2, .int v3] (SHF, g) ((fun r : Int32 => ((some (.int r), (SHF, g)) : Out)) r) := by
  obtain ⟨d, rfl⟩ : ∃ d0, d = d0 + 1 := ⟨d - 1, by omega⟩
  have hd : 2 ≤ d := by omega
  refine E_in (f := (fun r : Int32 => ((some (.int r), (SHF, g)) : Out))) rfl (Nat.le_of_ble_eq_true rfl) ?_
  unfold reckoning_allHold
  change Lt X d (some .boolean) k_65 _ 0 [some (.ref 200), some (.ref 33), some (.int v2), some (.int v3), none] [] g _
  refine L_ic (pc' := 1) rfl q1_0 rfl ?_
  refine L_s (pc' := 3) (L' := [some (.ref 200), some (.ref 33), some (.int v2), some (.int v3), some (.int 0)]) rfl rfl ?_
  exact p_reckoning_allHold_3 hd F _ _ _
def reckoning_judge_16 (F : Nat) : Nat → Int32 → Int32 → Sg → Option (Sg)
  | 0, _, _, _ => none
  | n + 1, v2, v3, g =>
    (if (g 33 0) ≤ v3 then
      (some g)
    else
      (if 16 ≤ v3 then
        (some g)
      else
        Option.bind (reckoning_allHold F v3 v2 g) (fun x1 => (if x1 = 0 then
          (reckoning_judge_16 F n v2 (v3 + 1) g)
        else
          (if inb v3 16 = true then lt1 ((g 34 (Int32.toNatClampNeg v3)) : Int32) (fun x2 => (if x2 = 4 then
            (if inb v2 8 = true then (if inb v3 16 = true then (if inb v2 8 = true then lt1 (up2 g 205 (Int32.toNatClampNeg v2) ((g 205 (Int32.toNatClampNeg v2)) + (g 35 (Int32.toNatClampNeg v3)))) (fun g3 => (reckoning_judge_16 F n v2 (v3 + 1) g3)) else none) else none) else none)
          else (if x2 = 5 then
            (if inb v3 16 = true then (if inb v2 8 = true then lt1 (up2 g 206 (Int32.toNatClampNeg v2) (g 35 (Int32.toNatClampNeg v3))) (fun g5 => (reckoning_judge_16 F n v2 (v3 + 1) g5)) else none) else none)
          else (if inb v2 8 = true then lt1 (up2 g 205 (Int32.toNatClampNeg v2) 0) (fun g7 => (some g7)) else none)))) else none)))))
def reckoning_judge (F : Nat) (v2 : Int32) (g : Sg) : Option (Sg) :=
  (if inb v2 8 = true then lt1 (up2 g 205 (Int32.toNatClampNeg v2) 0) (fun g1 => (if inb v2 8 = true then lt1 (up2 g1 206 (Int32.toNatClampNeg v2) 0) (fun g2 => (reckoning_judge_16 F F v2 0 g2)) else none)) else none)
theorem p_reckoning_judge_16 {X : Xx} {d : Nat} (hd : 3 ≤ d) (F : Nat) : ∀ (n : Nat) (v2 : Int32) (v3 : Int32) (g : Sg), Lt X d none k_64 (fun r : Sg => ((none, (SHF, r)) : Out)) 16 [some (.ref 200), some (.ref 33), some (.int v2), some (.int v3)] [] g (reckoning_judge_16 F n v2 v3 g) := by
  intro n
  induction n with
  | zero => intros; exact L_none
  | succ n ih =>
    intro v2 v3 g
    show Lt X d none k_64 (fun r : Sg => ((none, (SHF, r)) : Out)) 16 [some (.ref 200), some (.ref 33), some (.int v2), some (.int v3)] [] g (
      (if (g 33 0) ≤ v3 then
        (some g)
      else
        (if 16 ≤ v3 then
          (some g)
        else
          Option.bind (reckoning_allHold F v3 v2 g) (fun x1 => (if x1 = 0 then
            (reckoning_judge_16 F n v2 (v3 + 1) g)
          else
            (if inb v3 16 = true then lt1 ((g 34 (Int32.toNatClampNeg v3)) : Int32) (fun x2 => (if x2 = 4 then
              (if inb v2 8 = true then (if inb v3 16 = true then (if inb v2 8 = true then lt1 (up2 g 205 (Int32.toNatClampNeg v2) ((g 205 (Int32.toNatClampNeg v2)) + (g 35 (Int32.toNatClampNeg v3)))) (fun g3 => (reckoning_judge_16 F n v2 (v3 + 1) g3)) else none) else none) else none)
            else (if x2 = 5 then
              (if inb v3 16 = true then (if inb v2 8 = true then lt1 (up2 g 206 (Int32.toNatClampNeg v2) (g 35 (Int32.toNatClampNeg v3))) (fun g5 => (reckoning_judge_16 F n v2 (v3 + 1) g5)) else none) else none)
            else (if inb v2 8 = true then lt1 (up2 g 205 (Int32.toNatClampNeg v2) 0) (fun g7 => (some g7)) else none)))) else none))))))
    refine L_s (pc' := 17) rfl rfl ?_
    refine L_s (pc' := 18) rfl rfl ?_
    refine L_gf (pc' := 21) rfl fi_33_0 rfl ?_
    refine L_br (t := 119) (n := 24) rfl rfl (fun _ => ?_) (fun _ => ?_)
    · exact L_ret rfl rfl rfl
    · refine L_s (pc' := 25) rfl rfl ?_
      refine L_bi (pc' := 27) rfl q2_16 rfl ?_
      refine L_br (t := 119) (n := 30) rfl rfl (fun _ => ?_) (fun _ => ?_)
      · exact L_ret rfl rfl rfl
      · refine L_s (pc' := 31) rfl rfl ?_
        refine L_s (pc' := 32) rfl rfl ?_
        refine L_s (pc' := 33) rfl rfl ?_
        refine L_s (pc' := 34) rfl rfl ?_
        refine L_ci (pc' := 37) (as := [.ref 200, .ref 33, .int v3, .int v2]) (rest := []) rfl rfl (e_reckoning_allHold (by omega) F _ _ _) rfl fun x1 => ?_
        refine L_br (t := 113) (n := 40) rfl rfl (fun _ => ?_) (fun _ => ?_)
        · refine L_ii (pc' := 116) (L' := [some (.ref 200), some (.ref 33), some (.int v2), some (.int (v3 + 1))]) rfl rfl q1_1 rfl rfl rfl ?_
          refine L_s (pc' := 16) rfl rfl ?_
          exact ih _ _ _
        · refine L_s (pc' := 41) rfl rfl ?_
          refine L_gf (pc' := 44) rfl fr_33_1 rfl ?_
          refine L_s (pc' := 45) rfl rfl ?_
          refine L_rI (pc' := 46) rfl sh_34 (by decide) rfl ?_
          refine L_li fun x2 _ => ?_
          refine L_if (fun h4 => ?_) (fun h4 => ?_)
          · subst h4
            refine L_ls (t := 72) (off := 26) rfl (by decide) rfl ?_
            refine L_s (pc' := 73) rfl rfl ?_
            refine L_gf (pc' := 76) rfl fr_200_4 rfl ?_
            refine L_s (pc' := 77) rfl rfl ?_
            refine L_s (pc' := 78) rfl rfl ?_
            refine L_rI (pc' := 79) rfl sh_205 (by decide) rfl ?_
            refine L_s (pc' := 80) rfl rfl ?_
            refine L_gf (pc' := 83) rfl fr_33_2 rfl ?_
            refine L_s (pc' := 84) rfl rfl ?_
            refine L_rI (pc' := 85) rfl sh_35 (by decide) rfl ?_
            refine L_s (pc' := 86) rfl rfl ?_
            refine L_wI (pc' := 87) rfl sh_205 (by decide) rfl ?_
            refine L_let fun g3 _ => ?_
            refine L_s (pc' := 113) rfl rfl ?_
            refine L_ii (pc' := 116) (L' := [some (.ref 200), some (.ref 33), some (.int v2), some (.int (v3 + 1))]) rfl rfl q1_1 rfl rfl rfl ?_
            refine L_s (pc' := 16) rfl rfl ?_
            exact ih _ _ _
          refine L_if (fun h6 => ?_) (fun h6 => ?_)
          · subst h6
            refine L_ls (t := 90) (off := 44) rfl (by decide) rfl ?_
            refine L_s (pc' := 91) rfl rfl ?_
            refine L_gf (pc' := 94) rfl fr_200_5 rfl ?_
            refine L_s (pc' := 95) rfl rfl ?_
            refine L_s (pc' := 96) rfl rfl ?_
            refine L_gf (pc' := 99) rfl fr_33_2 rfl ?_
            refine L_s (pc' := 100) rfl rfl ?_
            refine L_rI (pc' := 101) rfl sh_35 (by decide) rfl ?_
            refine L_wI (pc' := 102) rfl sh_206 (by decide) rfl ?_
            refine L_let fun g5 _ => ?_
            refine L_s (pc' := 113) rfl rfl ?_
            refine L_ii (pc' := 116) (L' := [some (.ref 200), some (.ref 33), some (.int v2), some (.int (v3 + 1))]) rfl rfl q1_1 rfl rfl rfl ?_
            refine L_s (pc' := 16) rfl rfl ?_
            exact ih _ _ _
          refine L_ls (off := 59) (t := 105) rfl (lwf_out (by decide) (fun q hq => by
            simp only [List.mem_cons, List.not_mem_nil, or_false] at hq
            rcases hq with rfl | rfl
            · exact fun e => h4 (Int32.toInt_inj.mp (e.trans (by decide)))
            · exact fun e => h6 (Int32.toInt_inj.mp (e.trans (by decide))))) rfl ?_
          refine L_s (pc' := 106) rfl rfl ?_
          refine L_gf (pc' := 109) rfl fr_200_4 rfl ?_
          refine L_s (pc' := 110) rfl rfl ?_
          refine L_ic (pc' := 111) rfl q1_0 rfl ?_
          refine L_wI (pc' := 112) rfl sh_205 (by decide) rfl ?_
          refine L_let fun g7 _ => ?_
          exact L_ret rfl rfl rfl
theorem e_reckoning_judge {X : Xx} {d : Nat} (hd : 4 ≤ d) (F : Nat) (v2 : Int32) (g : Sg) : ∀ r, reckoning_judge F v2 g = some r → EvM zft mtl X d 64 [.ref 200, .ref 33, .int v2] (SHF, g) ((fun r : Sg => ((none, (SHF, r)) : Out)) r) := by
  obtain ⟨d, rfl⟩ : ∃ d0, d = d0 + 1 := ⟨d - 1, by omega⟩
  have hd : 3 ≤ d := by omega
  refine E_in (f := (fun r : Sg => ((none, (SHF, r)) : Out))) rfl (Nat.le_of_ble_eq_true rfl) ?_
  unfold reckoning_judge
  change Lt X d none k_64 _ 0 [some (.ref 200), some (.ref 33), some (.int v2), none] [] g _
  refine L_s (pc' := 1) rfl rfl ?_
  refine L_gf (pc' := 4) rfl fr_200_4 rfl ?_
  refine L_s (pc' := 5) rfl rfl ?_
  refine L_ic (pc' := 6) rfl q1_0 rfl ?_
  refine L_wI (pc' := 7) rfl sh_205 (by decide) rfl ?_
  refine L_let fun g1 _ => ?_
  refine L_s (pc' := 8) rfl rfl ?_
  refine L_gf (pc' := 11) rfl fr_200_5 rfl ?_
  refine L_s (pc' := 12) rfl rfl ?_
  refine L_ic (pc' := 13) rfl q1_0 rfl ?_
  refine L_wI (pc' := 14) rfl sh_206 (by decide) rfl ?_
  refine L_let fun g2 _ => ?_
  refine L_ic (pc' := 15) rfl q1_0 rfl ?_
  refine L_s (pc' := 16) (L' := [some (.ref 200), some (.ref 33), some (.int v2), some (.int 0)]) rfl rfl ?_
  exact p_reckoning_judge_16 hd F F _ _ _
def reckoning_reckon_98 (F : Nat) (k_48 : Int32 → Sg → Option (Sg)) (v4 : Int32) (s0 : Int32) (s1 : Int32) (g : Sg) : Option (Sg) :=
  (if inb s1 8 = true then lt1 (up2 g 204 (Int32.toNatClampNeg s1) s0) (fun g1 => Option.bind (reckoning_judge F v4 g1) (fun g2 => (k_48 (v4 + 1) g2))) else none)
def reckoning_reckon_48 (F : Nat) : Nat → Int32 → Sg → Option (Sg)
  | 0, _, _ => none
  | n + 1, v4, g =>
    (if 8 ≤ v4 then
      (some g)
    else
      (if inb v4 8 = true then Option.bind (ways_find F 0 (g 23 (Int32.toNatClampNeg v4)) g) (fun (x1, g2) => (if x1 = 0 then
        (reckoning_reckon_98 F (fun v4 g0 => reckoning_reckon_48 F n v4 g0) v4 999 v4 g2)
      else
        Option.bind (ways_travelFrom 0 g2) (fun x3 => (reckoning_reckon_98 F (fun v4 g0 => reckoning_reckon_48 F n v4 g0) v4 x3 v4 g2)))) else none))
def reckoning_reckon (F : Nat) (v2 : Int32) (g : Sg) : Option (Sg) :=
  Option.bind (reckoning_reckonOwed F g) (fun g1 => Option.bind (reckoning_reckonHours F v2 g1) (fun g2 => Option.bind (x_isWeek v2 g2) (fun x3 => (if x3 = 0 then
    lt1 (up2 g2 200 7 0) (fun g4 => (reckoning_reckon_48 F F 0 g4))
  else
    (if inb v2 100 = true then (if (g2 41 (Int32.toNatClampNeg v2)) = 0 then
      lt1 (up2 g2 200 7 0) (fun g5 => (reckoning_reckon_48 F F 0 g5))
    else
      lt1 (up2 g2 200 7 1) (fun g6 => (reckoning_reckon_48 F F 0 g6))) else none)))))
theorem p_reckoning_reckon_98 {X : Xx} {d : Nat} {k_48 : Int32 → Sg → Option (Sg)} (hd : 4 ≤ d) (hk_48 : ∀ (v4 : Int32) (g : Sg), Lt X d none k_62 (fun r : Sg => ((none, (SHF, r)) : Out)) 48 [some (.ref 200), some (.ref 1), none, some (.ref 187), some (.int v4), none] [] g (k_48 v4 g)) (F : Nat) (v4 : Int32) (s0 : Int32) (s1 : Int32) (g : Sg) : Lt X d none k_62 (fun r : Sg => ((none, (SHF, r)) : Out)) 98 [some (.ref 200), some (.ref 1), none, some (.ref 187), some (.int v4), none] [.int s0, .int s1, .ref 204] g (reckoning_reckon_98 F k_48 v4 s0 s1 g) := by
  unfold reckoning_reckon_98
  refine L_wI (pc' := 99) rfl sh_204 (by decide) rfl ?_
  refine L_let fun g1 _ => ?_
  refine L_s (pc' := 100) rfl rfl ?_
  refine L_s (pc' := 101) rfl rfl ?_
  refine L_gf (pc' := 104) rfl fr_1_2 rfl ?_
  refine L_gf (pc' := 107) rfl fr_31_4 rfl ?_
  refine L_s (pc' := 109) rfl rfl ?_
  refine L_cv (pc' := 112) (as := [.ref 200, .ref 33, .int v4]) (rest := []) rfl rfl (e_reckoning_judge (by omega) F _ _) rfl fun g2 => ?_
  refine L_ii (pc' := 115) (L' := [some (.ref 200), some (.ref 1), none, some (.ref 187), some (.int (v4 + 1)), none]) rfl rfl q1_1 rfl rfl rfl ?_
  refine L_s (pc' := 48) rfl rfl ?_
  exact hk_48 _ _
theorem p_reckoning_reckon_48 {X : Xx} {d : Nat} (hd : 4 ≤ d) (F : Nat) : ∀ (n : Nat) (v4 : Int32) (g : Sg), Lt X d none k_62 (fun r : Sg => ((none, (SHF, r)) : Out)) 48 [some (.ref 200), some (.ref 1), none, some (.ref 187), some (.int v4), none] [] g (reckoning_reckon_48 F n v4 g) := by
  intro n
  induction n with
  | zero => intros; exact L_none
  | succ n ih =>
    intro v4 g
    show Lt X d none k_62 (fun r : Sg => ((none, (SHF, r)) : Out)) 48 [some (.ref 200), some (.ref 1), none, some (.ref 187), some (.int v4), none] [] g (
      (if 8 ≤ v4 then
        (some g)
      else
        (if inb v4 8 = true then Option.bind (ways_find F 0 (g 23 (Int32.toNatClampNeg v4)) g) (fun (x1, g2) => (if x1 = 0 then
          (reckoning_reckon_98 F (fun v4 g0 => reckoning_reckon_48 F n v4 g0) v4 999 v4 g2)
        else
          Option.bind (ways_travelFrom 0 g2) (fun x3 => (reckoning_reckon_98 F (fun v4 g0 => reckoning_reckon_48 F n v4 g0) v4 x3 v4 g2)))) else none)))
    refine L_s (pc' := 50) rfl rfl ?_
    refine L_bi (pc' := 52) rfl q2_8 rfl ?_
    refine L_br (t := 118) (n := 55) rfl rfl (fun _ => ?_) (fun _ => ?_)
    · exact L_ret rfl rfl rfl
    · refine L_s (pc' := 56) rfl rfl ?_
      refine L_s (pc' := 57) rfl rfl ?_
      refine L_gf (pc' := 60) rfl fr_1_0 rfl ?_
      refine L_ic (pc' := 61) rfl q1_0 rfl ?_
      refine L_s (pc' := 62) rfl rfl ?_
      refine L_gf (pc' := 65) rfl fr_1_1 rfl ?_
      refine L_gf (pc' := 68) rfl fr_22_0 rfl ?_
      refine L_s (pc' := 70) rfl rfl ?_
      refine L_rI (pc' := 71) rfl sh_23 (by decide) rfl ?_
      refine L_cig (pc' := 74) (as := [.ref 187, .ref 2, .int 0, .int (g 23 (Int32.toNatClampNeg v4))]) (rest := []) rfl rfl (e_ways_find (by omega) F _ _ _) rfl fun x1 g2 => ?_
      refine L_s (pc' := 76) (L' := [some (.ref 200), some (.ref 1), none, some (.ref 187), some (.int v4), some (.int x1)]) rfl rfl ?_
      refine L_s (pc' := 77) rfl rfl ?_
      refine L_gf (pc' := 80) rfl fr_200_3 rfl ?_
      refine L_s (pc' := 82) rfl rfl ?_
      refine L_s (pc' := 84) rfl rfl ?_
      refine L_br (t := 95) (n := 87) rfl rfl (fun _ => ?_) (fun _ => ?_)
      · refine L_si (pc' := 98) rfl q3_999 rfl ?_
        refine L_wk (L' := [some (.ref 200), some (.ref 1), none, some (.ref 187), some (.int v4), none]) (wk_s (wk_s (wk_s (wk_s (wk_s (wk_n wk_nil)))))) ?_
        exact p_reckoning_reckon_98 hd (fun _ _ => ih _ _) F _ _ _ _
      · refine L_s (pc' := 88) rfl rfl ?_
        refine L_ic (pc' := 89) rfl q1_0 rfl ?_
        refine L_ci (pc' := 92) (as := [.ref 187, .int 0]) (rest := [.int v4, .ref 204]) rfl rfl (e_ways_travelFrom (by omega) _ _) rfl fun x3 => ?_
        refine L_s (pc' := 98) rfl rfl ?_
        refine L_wk (L' := [some (.ref 200), some (.ref 1), none, some (.ref 187), some (.int v4), none]) (wk_s (wk_s (wk_s (wk_s (wk_s (wk_n wk_nil)))))) ?_
        exact p_reckoning_reckon_98 hd (fun _ _ => ih _ _) F _ _ _ _
theorem e_reckoning_reckon {X : Xx} {d : Nat} (hd : 5 ≤ d) (F : Nat) (v2 : Int32) (g : Sg) : ∀ r, reckoning_reckon F v2 g = some r → EvM zft mtl X d 62 [.ref 200, .ref 1, .int v2, .ref 187] (SHF, g) ((fun r : Sg => ((none, (SHF, r)) : Out)) r) := by
  obtain ⟨d, rfl⟩ : ∃ d0, d = d0 + 1 := ⟨d - 1, by omega⟩
  have hd : 4 ≤ d := by omega
  refine E_in (f := (fun r : Sg => ((none, (SHF, r)) : Out))) rfl (Nat.le_of_ble_eq_true rfl) ?_
  unfold reckoning_reckon
  change Lt X d none k_62 _ 0 [some (.ref 200), some (.ref 1), some (.int v2), some (.ref 187), none, none] [] g _
  refine L_s (pc' := 1) rfl rfl ?_
  refine L_s (pc' := 2) rfl rfl ?_
  refine L_gf (pc' := 5) rfl fr_1_1 rfl ?_
  refine L_cv (pc' := 8) (as := [.ref 200, .ref 22]) (rest := []) rfl rfl (e_reckoning_reckonOwed (by omega) F _) rfl fun g1 => ?_
  refine L_s (pc' := 9) rfl rfl ?_
  refine L_s (pc' := 10) rfl rfl ?_
  refine L_gf (pc' := 13) rfl fr_1_1 rfl ?_
  refine L_s (pc' := 14) rfl rfl ?_
  refine L_cv (pc' := 17) (as := [.ref 200, .ref 22, .int v2]) (rest := []) rfl rfl (e_reckoning_reckonHours (by omega) F _ _) rfl fun g2 => ?_
  refine L_s (pc' := 18) rfl rfl ?_
  refine L_s (pc' := 19) rfl rfl ?_
  refine L_ci (pc' := 22) (as := [.int v2]) (rest := [.ref 200]) rfl rfl (e_x_isWeek (by omega) _ _) rfl fun x3 => ?_
  refine L_br (t := 41) (n := 25) rfl rfl (fun _ => ?_) (fun _ => ?_)
  · refine L_ic (pc' := 42) rfl q1_0 rfl ?_
    refine L_pz (pc' := 45) rfl sh_200 (by decide) rfl (by decide) rfl ?_
    refine L_let fun g4 _ => ?_
    refine L_ic (pc' := 46) rfl q1_0 rfl ?_
    refine L_s (pc' := 48) (L' := [some (.ref 200), some (.ref 1), some (.int v2), some (.ref 187), some (.int 0), none]) rfl rfl ?_
    refine L_wk (L' := [some (.ref 200), some (.ref 1), none, some (.ref 187), some (.int 0), none]) (wk_s (wk_s (wk_n (wk_s (wk_s (wk_s wk_nil)))))) ?_
    exact p_reckoning_reckon_48 hd F F _ _
  · refine L_s (pc' := 26) rfl rfl ?_
    refine L_gf (pc' := 29) rfl fr_1_2 rfl ?_
    refine L_gf (pc' := 32) rfl fr_31_5 rfl ?_
    refine L_s (pc' := 33) rfl rfl ?_
    refine L_rB (pc' := 34) rfl sh_41 (by decide) (by decide) rfl ?_
    refine L_br (t := 41) (n := 37) rfl rfl (fun _ => ?_) (fun _ => ?_)
    · refine L_ic (pc' := 42) rfl q1_0 rfl ?_
      refine L_pz (pc' := 45) rfl sh_200 (by decide) rfl (by decide) rfl ?_
      refine L_let fun g5 _ => ?_
      refine L_ic (pc' := 46) rfl q1_0 rfl ?_
      refine L_s (pc' := 48) (L' := [some (.ref 200), some (.ref 1), some (.int v2), some (.ref 187), some (.int 0), none]) rfl rfl ?_
      refine L_wk (L' := [some (.ref 200), some (.ref 1), none, some (.ref 187), some (.int 0), none]) (wk_s (wk_s (wk_n (wk_s (wk_s (wk_s wk_nil)))))) ?_
      exact p_reckoning_reckon_48 hd F F _ _
    · refine L_ic (pc' := 38) rfl q1_1 rfl ?_
      refine L_s (pc' := 42) rfl rfl ?_
      refine L_pz (pc' := 45) rfl sh_200 (by decide) rfl (by decide) rfl ?_
      refine L_let fun g6 _ => ?_
      refine L_ic (pc' := 46) rfl q1_0 rfl ?_
      refine L_s (pc' := 48) (L' := [some (.ref 200), some (.ref 1), some (.int v2), some (.ref 187), some (.int 0), none]) rfl rfl ?_
      refine L_wk (L' := [some (.ref 200), some (.ref 1), none, some (.ref 187), some (.int 0), none]) (wk_s (wk_s (wk_n (wk_s (wk_s (wk_s wk_nil)))))) ?_
      exact p_reckoning_reckon_48 hd F F _ _
def reckoning_leftTo (v1 : Int32) (g : Sg) : Option (Int32) :=
  (if inb v1 8 = true then (if inb v1 8 = true then (if inb v1 8 = true then (some ((g 202 (Int32.toNatClampNeg v1)) - (((g 202 (Int32.toNatClampNeg v1)) * (g 206 (Int32.toNatClampNeg v1))) / 100))) else none) else none) else none)
theorem e_reckoning_leftTo {X : Xx} {d : Nat} (hd : 1 ≤ d) (v1 : Int32) (g : Sg) : ∀ r, reckoning_leftTo v1 g = some r → EvM zft mtl X d 68 [.ref 200, .int v1] (SHF, g) ((fun r : Int32 => ((some (.int r), (SHF, g)) : Out)) r) := by
  obtain ⟨d, rfl⟩ : ∃ d0, d = d0 + 1 := ⟨d - 1, by omega⟩
  have hd : 0 ≤ d := by omega
  refine E_in (f := (fun r : Int32 => ((some (.int r), (SHF, g)) : Out))) rfl (Nat.le_of_ble_eq_true rfl) ?_
  unfold reckoning_leftTo
  change Lt X d (some .int) k_68 _ 0 [some (.ref 200), some (.int v1)] [] g _
  refine L_s (pc' := 1) rfl rfl ?_
  refine L_gf (pc' := 4) rfl fr_200_1 rfl ?_
  refine L_s (pc' := 5) rfl rfl ?_
  refine L_rI (pc' := 6) rfl sh_202 (by decide) rfl ?_
  refine L_s (pc' := 7) rfl rfl ?_
  refine L_gf (pc' := 10) rfl fr_200_1 rfl ?_
  refine L_s (pc' := 11) rfl rfl ?_
  refine L_rI (pc' := 12) rfl sh_202 (by decide) rfl ?_
  refine L_s (pc' := 13) rfl rfl ?_
  refine L_gf (pc' := 16) rfl fr_200_5 rfl ?_
  refine L_s (pc' := 17) rfl rfl ?_
  refine L_rI (pc' := 18) rfl sh_206 (by decide) rfl ?_
  refine L_s (pc' := 19) rfl rfl ?_
  refine L_bi (pc' := 21) rfl q2_100 rfl ?_
  refine L_dvk (pc' := 22) rfl (by decide) rfl ?_
  refine L_s (pc' := 23) rfl rfl ?_
  exact L_ret rfl ret_i rfl
def x_holder (F : Nat) (v1 : Int32) (v2 : Int32) (v3 : Int32) (g : Sg) : Option (Int32 × Sg) :=
  Option.bind (x_isHolder v1 g) (fun x1 => (if x1 = 0 then
    (some ((-1), g))
  else
    Option.bind (x_isWeek v2 g) (fun x2 => (if x2 = 0 then
      (some ((-1), g))
    else
      Option.bind (x_within v3 0 5 g) (fun x3 => (if ¬ x3 = 0 then
        Option.bind (reckoning_reckon F v2 g) (fun g4 => (if v3 = 0 then
          (if inb v1 8 = true then (some ((g4 202 (Int32.toNatClampNeg v1)), g4)) else none)
        else (if v3 = 1 then
          (if inb v1 8 = true then (some ((g4 203 (Int32.toNatClampNeg v1)), g4)) else none)
        else (if v3 = 2 then
          (if inb v1 8 = true then (some ((g4 205 (Int32.toNatClampNeg v1)), g4)) else none)
        else (if v3 = 3 then
          (if inb v1 8 = true then (some ((g4 206 (Int32.toNatClampNeg v1)), g4)) else none)
        else (if v3 = 4 then
          Option.bind (reckoning_leftTo v1 g4) (fun x9 => (some (x9, g4)))
        else (if inb v1 8 = true then (some ((g4 204 (Int32.toNatClampNeg v1)), g4)) else none)))))))
      else
        (some ((-1), g))))))))
theorem e_x_holder {X : Xx} {d : Nat} (hd : 6 ≤ d) (F : Nat) (v1 : Int32) (v2 : Int32) (v3 : Int32) (g : Sg) : ∀ r, x_holder F v1 v2 v3 g = some r → EvM zft mtl X d 130 [.ref 0, .int v1, .int v2, .int v3] (SHF, g) ((fun r : Int32 × Sg => ((some (.int r.1), (SHF, r.2)) : Out)) r) := by
  obtain ⟨d, rfl⟩ : ∃ d0, d = d0 + 1 := ⟨d - 1, by omega⟩
  have hd : 5 ≤ d := by omega
  refine E_in (f := (fun r : Int32 × Sg => ((some (.int r.1), (SHF, r.2)) : Out))) rfl (Nat.le_of_ble_eq_true rfl) ?_
  unfold x_holder
  change Lt X d (some .int) k_130 _ 0 [some (.ref 0), some (.int v1), some (.int v2), some (.int v3)] [] g _
  refine L_s (pc' := 1) rfl rfl ?_
  refine L_ci (pc' := 4) (as := [.int v1]) (rest := []) rfl rfl (e_x_isHolder (by omega) _ _) rfl fun x1 => ?_
  refine L_br (t := 23) (n := 7) rfl rfl (fun _ => ?_) (fun _ => ?_)
  · refine L_ic (pc' := 24) rfl q1_m1 rfl ?_
    exact L_ret rfl ret_i rfl
  · refine L_s (pc' := 8) rfl rfl ?_
    refine L_ci (pc' := 11) (as := [.int v2]) (rest := []) rfl rfl (e_x_isWeek (by omega) _ _) rfl fun x2 => ?_
    refine L_br (t := 23) (n := 14) rfl rfl (fun _ => ?_) (fun _ => ?_)
    · refine L_ic (pc' := 24) rfl q1_m1 rfl ?_
      exact L_ret rfl ret_i rfl
    · refine L_s (pc' := 15) rfl rfl ?_
      refine L_ic (pc' := 16) rfl q1_0 rfl ?_
      refine L_ic (pc' := 17) rfl q1_5 rfl ?_
      refine L_ci (pc' := 20) (as := [.int v3, .int 0, .int 5]) (rest := []) rfl rfl (e_x_within (by omega) _ _ _ _) rfl fun x3 => ?_
      refine L_br (t := 25) (n := 23) rfl rfl (fun _ => ?_) (fun _ => ?_)
      · refine L_s (pc' := 26) rfl rfl ?_
        refine L_gf (pc' := 29) rfl fr_0_5 rfl ?_
        refine L_s (pc' := 30) rfl rfl ?_
        refine L_gf (pc' := 33) rfl fr_0_0 rfl ?_
        refine L_s (pc' := 34) rfl rfl ?_
        refine L_s (pc' := 35) rfl rfl ?_
        refine L_gf (pc' := 38) rfl fr_0_3 rfl ?_
        refine L_cv (pc' := 41) (as := [.ref 200, .ref 1, .int v2, .ref 187]) (rest := []) rfl rfl (e_reckoning_reckon (by omega) F _ _) rfl fun g4 => ?_
        refine L_s (pc' := 42) rfl rfl ?_
        refine L_if (fun h5 => ?_) (fun h5 => ?_)
        · subst h5
          refine L_ts (t := 76) (off := 34) rfl (by decide) rfl ?_
          refine L_s (pc' := 77) rfl rfl ?_
          refine L_gf (pc' := 80) rfl fr_0_5 rfl ?_
          refine L_gf (pc' := 83) rfl fr_200_1 rfl ?_
          refine L_s (pc' := 84) rfl rfl ?_
          refine L_rI (pc' := 85) rfl sh_202 (by decide) rfl ?_
          exact L_ret rfl ret_i rfl
        refine L_if (fun h6 => ?_) (fun h6 => ?_)
        · subst h6
          refine L_ts (t := 86) (off := 44) rfl (by decide) rfl ?_
          refine L_s (pc' := 87) rfl rfl ?_
          refine L_gf (pc' := 90) rfl fr_0_5 rfl ?_
          refine L_gf (pc' := 93) rfl fr_200_2 rfl ?_
          refine L_s (pc' := 94) rfl rfl ?_
          refine L_rI (pc' := 95) rfl sh_203 (by decide) rfl ?_
          exact L_ret rfl ret_i rfl
        refine L_if (fun h7 => ?_) (fun h7 => ?_)
        · subst h7
          refine L_ts (t := 96) (off := 54) rfl (by decide) rfl ?_
          refine L_s (pc' := 97) rfl rfl ?_
          refine L_gf (pc' := 100) rfl fr_0_5 rfl ?_
          refine L_gf (pc' := 103) rfl fr_200_4 rfl ?_
          refine L_s (pc' := 104) rfl rfl ?_
          refine L_rI (pc' := 105) rfl sh_205 (by decide) rfl ?_
          exact L_ret rfl ret_i rfl
        refine L_if (fun h8 => ?_) (fun h8 => ?_)
        · subst h8
          refine L_ts (t := 106) (off := 64) rfl (by decide) rfl ?_
          refine L_s (pc' := 107) rfl rfl ?_
          refine L_gf (pc' := 110) rfl fr_0_5 rfl ?_
          refine L_gf (pc' := 113) rfl fr_200_5 rfl ?_
          refine L_s (pc' := 114) rfl rfl ?_
          refine L_rI (pc' := 115) rfl sh_206 (by decide) rfl ?_
          exact L_ret rfl ret_i rfl
        refine L_if (fun h10 => ?_) (fun h10 => ?_)
        · subst h10
          refine L_ts (t := 116) (off := 74) rfl (by decide) rfl ?_
          refine L_s (pc' := 117) rfl rfl ?_
          refine L_gf (pc' := 120) rfl fr_0_5 rfl ?_
          refine L_s (pc' := 121) rfl rfl ?_
          refine L_ci (pc' := 124) (as := [.ref 200, .int v1]) (rest := []) rfl rfl (e_reckoning_leftTo (by omega) _ _) rfl fun x9 => ?_
          exact L_ret rfl ret_i rfl
        refine L_ts (off := 83) (t := 125) rfl (twf_out (n := 5) (by decide) (by decide) (fun j hj => by
          match j, hj with
          | 0, _ => exact fun e => h5 (e.trans (by decide))
          | 1, _ => exact fun e => h6 (e.trans (by decide))
          | 2, _ => exact fun e => h7 (e.trans (by decide))
          | 3, _ => exact fun e => h8 (e.trans (by decide))
          | 4, _ => exact fun e => h10 (e.trans (by decide))
          | j + 5, hj => exact absurd hj (by omega))) rfl ?_
        refine L_s (pc' := 126) rfl rfl ?_
        refine L_gf (pc' := 129) rfl fr_0_5 rfl ?_
        refine L_gf (pc' := 132) rfl fr_200_3 rfl ?_
        refine L_s (pc' := 133) rfl rfl ?_
        refine L_rI (pc' := 134) rfl sh_204 (by decide) rfl ?_
        exact L_ret rfl ret_i rfl
      · refine L_ic (pc' := 24) rfl q1_m1 rfl ?_
        exact L_ret rfl ret_i rfl
def reckoning_shareOf_61 : Nat → Int32 → Int32 → Int64 → Int64 → Int32 → Int64 → Int32 → Sg → Option (Int32)
  | 0, _, _, _, _, _, _, _, _ => none
  | n + 1, v1, v2, v3, v5, v7, v8, v10, g =>
    (if 8 ≤ v10 then
      (if inb v2 8 = true then (if v3 = 0 then none else lt1 ((Int64.toInt32 (((Int32.toInt64 v1) * (Int32.toInt64 (g 205 (Int32.toNatClampNeg v2)))) / v3)) : Int32) (fun x1 => (if 0 ≤ (lg_cmp (Int32.toInt64 v7) v5) then
        (some x1)
      else
        (some (x1 + 1))))) else none)
    else
      (if inb v10 8 = true then (if v3 = 0 then none else lt1 ((((Int32.toInt64 v1) * (Int32.toInt64 (g 205 (Int32.toNatClampNeg v10)))) - ((Int32.toInt64 v1) * (Int32.toInt64 (g 205 (Int32.toNatClampNeg v10)))) / v3 * v3) : Int64) (fun x2 => (if inb v10 8 = true then (if v3 = 0 then none else lt1 ((v5 - (((Int32.toInt64 v1) * (Int32.toInt64 (g 205 (Int32.toNatClampNeg v10)))) / v3)) : Int64) (fun x3 => (if 0 < (lg_cmp x2 v8) then
        (reckoning_shareOf_61 n v1 v2 v3 x3 (v7 + 1) v8 (v10 + 1) g)
      else
        (if ¬ (lg_cmp x2 v8) = 0 then
          (reckoning_shareOf_61 n v1 v2 v3 x3 v7 v8 (v10 + 1) g)
        else
          (if v2 ≤ v10 then
            (reckoning_shareOf_61 n v1 v2 v3 x3 v7 v8 (v10 + 1) g)
          else
            (reckoning_shareOf_61 n v1 v2 v3 x3 (v7 + 1) v8 (v10 + 1) g)))))) else none))) else none))
def reckoning_shareOf_5 (F : Nat) : Nat → Int32 → Int32 → Int64 → Int32 → Sg → Option (Int32)
  | 0, _, _, _, _, _ => none
  | n + 1, v1, v2, v3, v5, g =>
    (if 8 ≤ v5 then
      (if 0 < (lg_cmp v3 0) then
        lt1 ((Int32.toInt64 v1) : Int64) (fun x1 => (if inb v2 8 = true then (if v3 = 0 then none else lt1 ((((Int32.toInt64 v1) * (Int32.toInt64 (g 205 (Int32.toNatClampNeg v2)))) - ((Int32.toInt64 v1) * (Int32.toInt64 (g 205 (Int32.toNatClampNeg v2)))) / v3 * v3) : Int64) (fun x2 => (reckoning_shareOf_61 F v1 v2 v3 x1 0 x2 0 g))) else none))
      else
        (some 0))
    else
      (if inb v5 8 = true then lt1 ((v3 + (Int32.toInt64 (g 205 (Int32.toNatClampNeg v5)))) : Int64) (fun x3 => (reckoning_shareOf_5 F n v1 v2 x3 (v5 + 1) g)) else none))
def reckoning_shareOf (F : Nat) (v1 : Int32) (v2 : Int32) (g : Sg) : Option (Int32) :=
  (reckoning_shareOf_5 F F v1 v2 0 0 g)
theorem p_reckoning_shareOf_61 {X : Xx} {d : Nat} {g : Sg} (hd : 0 ≤ d) : ∀ (n : Nat) (v1 : Int32) (v2 : Int32) (v3 : Int64) (v5 : Int64) (v7 : Int32) (v8 : Int64) (v10 : Int32), Lt X d (some .int) k_69 (fun r : Int32 => ((some (.int r), (SHF, g)) : Out)) 61 [some (.ref 200), some (.int v1), some (.int v2), some (.long v3), none, some (.long v5), none, some (.int v7), some (.long v8), none, some (.int v10), none, none] [] g (reckoning_shareOf_61 n v1 v2 v3 v5 v7 v8 v10 g) := by
  intro n
  induction n with
  | zero => intros; exact L_none
  | succ n ih =>
    intro v1 v2 v3 v5 v7 v8 v10
    show Lt X d (some .int) k_69 (fun r : Int32 => ((some (.int r), (SHF, g)) : Out)) 61 [some (.ref 200), some (.int v1), some (.int v2), some (.long v3), none, some (.long v5), none, some (.int v7), some (.long v8), none, some (.int v10), none, none] [] g (
      (if 8 ≤ v10 then
        (if inb v2 8 = true then (if v3 = 0 then none else lt1 ((Int64.toInt32 (((Int32.toInt64 v1) * (Int32.toInt64 (g 205 (Int32.toNatClampNeg v2)))) / v3)) : Int32) (fun x1 => (if 0 ≤ (lg_cmp (Int32.toInt64 v7) v5) then
          (some x1)
        else
          (some (x1 + 1))))) else none)
      else
        (if inb v10 8 = true then (if v3 = 0 then none else lt1 ((((Int32.toInt64 v1) * (Int32.toInt64 (g 205 (Int32.toNatClampNeg v10)))) - ((Int32.toInt64 v1) * (Int32.toInt64 (g 205 (Int32.toNatClampNeg v10)))) / v3 * v3) : Int64) (fun x2 => (if inb v10 8 = true then (if v3 = 0 then none else lt1 ((v5 - (((Int32.toInt64 v1) * (Int32.toInt64 (g 205 (Int32.toNatClampNeg v10)))) / v3)) : Int64) (fun x3 => (if 0 < (lg_cmp x2 v8) then
          (reckoning_shareOf_61 n v1 v2 v3 x3 (v7 + 1) v8 (v10 + 1) g)
        else
          (if ¬ (lg_cmp x2 v8) = 0 then
            (reckoning_shareOf_61 n v1 v2 v3 x3 v7 v8 (v10 + 1) g)
          else
            (if v2 ≤ v10 then
              (reckoning_shareOf_61 n v1 v2 v3 x3 v7 v8 (v10 + 1) g)
            else
              (reckoning_shareOf_61 n v1 v2 v3 x3 (v7 + 1) v8 (v10 + 1) g)))))) else none))) else none)))
    refine L_s (pc' := 63) rfl rfl ?_
    refine L_bi (pc' := 65) rfl q2_8 rfl ?_
    refine L_br (t := 132) (n := 68) rfl rfl (fun _ => ?_) (fun _ => ?_)
    · refine L_s (pc' := 133) rfl rfl ?_
      refine L_s (pc' := 134) rfl rfl ?_
      refine L_s (pc' := 135) rfl rfl ?_
      refine L_gf (pc' := 138) rfl fr_200_4 rfl ?_
      refine L_s (pc' := 139) rfl rfl ?_
      refine L_rI (pc' := 140) rfl sh_205 (by decide) rfl ?_
      refine L_s (pc' := 141) rfl rfl ?_
      refine L_s (pc' := 142) rfl rfl ?_
      refine L_s (pc' := 143) rfl rfl ?_
      refine L_ldv (pc' := 144) rfl rfl ?_
      refine L_s (pc' := 145) rfl rfl ?_
      refine L_li fun x1 _ => ?_
      refine L_s (pc' := 147) (L' := [some (.ref 200), some (.int v1), some (.int v2), some (.long v3), none, some (.long v5), none, some (.int v7), some (.long v8), none, some (.int x1), none, none]) rfl rfl ?_
      refine L_s (pc' := 149) rfl rfl ?_
      refine L_s (pc' := 150) rfl rfl ?_
      refine L_s (pc' := 152) rfl rfl ?_
      refine L_s (pc' := 153) rfl rfl ?_
      refine L_br (t := 163) (n := 156) rfl rfl (fun _ => ?_) (fun _ => ?_)
      · refine L_s (pc' := 165) rfl rfl ?_
        exact L_ret rfl ret_i rfl
      · refine L_s (pc' := 158) rfl rfl ?_
        refine L_ic (pc' := 159) rfl q1_1 rfl ?_
        refine L_s (pc' := 160) rfl rfl ?_
        refine L_s (pc' := 165) rfl rfl ?_
        exact L_ret rfl ret_i rfl
    · refine L_s (pc' := 69) rfl rfl ?_
      refine L_s (pc' := 70) rfl rfl ?_
      refine L_s (pc' := 71) rfl rfl ?_
      refine L_gf (pc' := 74) rfl fr_200_4 rfl ?_
      refine L_s (pc' := 76) rfl rfl ?_
      refine L_rI (pc' := 77) rfl sh_205 (by decide) rfl ?_
      refine L_s (pc' := 78) rfl rfl ?_
      refine L_s (pc' := 79) rfl rfl ?_
      refine L_s (pc' := 80) rfl rfl ?_
      refine L_lrm (pc' := 81) rfl rfl ?_
      refine L_ll fun x2 _ => ?_
      refine L_s (pc' := 83) (L' := [some (.ref 200), some (.int v1), some (.int v2), some (.long v3), none, some (.long v5), none, some (.int v7), some (.long v8), none, some (.int v10), some (.long x2), none]) rfl rfl ?_
      refine L_s (pc' := 85) rfl rfl ?_
      refine L_s (pc' := 86) rfl rfl ?_
      refine L_s (pc' := 87) rfl rfl ?_
      refine L_s (pc' := 88) rfl rfl ?_
      refine L_gf (pc' := 91) rfl fr_200_4 rfl ?_
      refine L_s (pc' := 93) rfl rfl ?_
      refine L_rI (pc' := 94) rfl sh_205 (by decide) rfl ?_
      refine L_s (pc' := 95) rfl rfl ?_
      refine L_s (pc' := 96) rfl rfl ?_
      refine L_s (pc' := 97) rfl rfl ?_
      refine L_ldv (pc' := 98) rfl rfl ?_
      refine L_s (pc' := 99) rfl rfl ?_
      refine L_ll fun x3 _ => ?_
      refine L_s (pc' := 101) (L' := [some (.ref 200), some (.int v1), some (.int v2), some (.long v3), none, some (.long x3), none, some (.int v7), some (.long v8), none, some (.int v10), some (.long x2), none]) rfl rfl ?_
      refine L_s (pc' := 103) rfl rfl ?_
      refine L_s (pc' := 105) rfl rfl ?_
      refine L_s (pc' := 106) rfl rfl ?_
      refine L_br (t := 123) (n := 109) rfl rfl (fun _ => ?_) (fun _ => ?_)
      · refine L_ii (pc' := 126) (L' := [some (.ref 200), some (.int v1), some (.int v2), some (.long v3), none, some (.long x3), none, some (.int (v7 + 1)), some (.long v8), none, some (.int v10), some (.long x2), none]) rfl rfl q1_1 rfl rfl rfl ?_
        refine L_ii (pc' := 129) (L' := [some (.ref 200), some (.int v1), some (.int v2), some (.long v3), none, some (.long x3), none, some (.int (v7 + 1)), some (.long v8), none, some (.int (v10 + 1)), some (.long x2), none]) rfl rfl q1_1 rfl rfl rfl ?_
        refine L_s (pc' := 61) rfl rfl ?_
        refine L_wk (L' := [some (.ref 200), some (.int v1), some (.int v2), some (.long v3), none, some (.long x3), none, some (.int (v7 + 1)), some (.long v8), none, some (.int (v10 + 1)), none, none]) (wk_s (wk_s (wk_s (wk_s (wk_s (wk_s (wk_s (wk_s (wk_s (wk_s (wk_s (wk_n (wk_s wk_nil))))))))))))) ?_
        exact ih _ _ _ _ _ _ _
      · refine L_s (pc' := 111) rfl rfl ?_
        refine L_s (pc' := 113) rfl rfl ?_
        refine L_s (pc' := 114) rfl rfl ?_
        refine L_br (t := 126) (n := 117) rfl rfl (fun _ => ?_) (fun _ => ?_)
        · refine L_ii (pc' := 129) (L' := [some (.ref 200), some (.int v1), some (.int v2), some (.long v3), none, some (.long x3), none, some (.int v7), some (.long v8), none, some (.int (v10 + 1)), some (.long x2), none]) rfl rfl q1_1 rfl rfl rfl ?_
          refine L_s (pc' := 61) rfl rfl ?_
          refine L_wk (L' := [some (.ref 200), some (.int v1), some (.int v2), some (.long v3), none, some (.long x3), none, some (.int v7), some (.long v8), none, some (.int (v10 + 1)), none, none]) (wk_s (wk_s (wk_s (wk_s (wk_s (wk_s (wk_s (wk_s (wk_s (wk_s (wk_s (wk_n (wk_s wk_nil))))))))))))) ?_
          exact ih _ _ _ _ _ _ _
        · refine L_s (pc' := 119) rfl rfl ?_
          refine L_s (pc' := 120) rfl rfl ?_
          refine L_br (t := 126) (n := 123) rfl rfl (fun _ => ?_) (fun _ => ?_)
          · refine L_ii (pc' := 129) (L' := [some (.ref 200), some (.int v1), some (.int v2), some (.long v3), none, some (.long x3), none, some (.int v7), some (.long v8), none, some (.int (v10 + 1)), some (.long x2), none]) rfl rfl q1_1 rfl rfl rfl ?_
            refine L_s (pc' := 61) rfl rfl ?_
            refine L_wk (L' := [some (.ref 200), some (.int v1), some (.int v2), some (.long v3), none, some (.long x3), none, some (.int v7), some (.long v8), none, some (.int (v10 + 1)), none, none]) (wk_s (wk_s (wk_s (wk_s (wk_s (wk_s (wk_s (wk_s (wk_s (wk_s (wk_s (wk_n (wk_s wk_nil))))))))))))) ?_
            exact ih _ _ _ _ _ _ _
          · refine L_ii (pc' := 126) (L' := [some (.ref 200), some (.int v1), some (.int v2), some (.long v3), none, some (.long x3), none, some (.int (v7 + 1)), some (.long v8), none, some (.int v10), some (.long x2), none]) rfl rfl q1_1 rfl rfl rfl ?_
            refine L_ii (pc' := 129) (L' := [some (.ref 200), some (.int v1), some (.int v2), some (.long v3), none, some (.long x3), none, some (.int (v7 + 1)), some (.long v8), none, some (.int (v10 + 1)), some (.long x2), none]) rfl rfl q1_1 rfl rfl rfl ?_
            refine L_s (pc' := 61) rfl rfl ?_
            refine L_wk (L' := [some (.ref 200), some (.int v1), some (.int v2), some (.long v3), none, some (.long x3), none, some (.int (v7 + 1)), some (.long v8), none, some (.int (v10 + 1)), none, none]) (wk_s (wk_s (wk_s (wk_s (wk_s (wk_s (wk_s (wk_s (wk_s (wk_s (wk_s (wk_n (wk_s wk_nil))))))))))))) ?_
            exact ih _ _ _ _ _ _ _
theorem p_reckoning_shareOf_5 {X : Xx} {d : Nat} {g : Sg} (hd : 0 ≤ d) (F : Nat) : ∀ (n : Nat) (v1 : Int32) (v2 : Int32) (v3 : Int64) (v5 : Int32), Lt X d (some .int) k_69 (fun r : Int32 => ((some (.int r), (SHF, g)) : Out)) 5 [some (.ref 200), some (.int v1), some (.int v2), some (.long v3), none, some (.int v5), none, none, none, none, none, none, none] [] g (reckoning_shareOf_5 F n v1 v2 v3 v5 g) := by
  intro n
  induction n with
  | zero => intros; exact L_none
  | succ n ih =>
    intro v1 v2 v3 v5
    show Lt X d (some .int) k_69 (fun r : Int32 => ((some (.int r), (SHF, g)) : Out)) 5 [some (.ref 200), some (.int v1), some (.int v2), some (.long v3), none, some (.int v5), none, none, none, none, none, none, none] [] g (
      (if 8 ≤ v5 then
        (if 0 < (lg_cmp v3 0) then
          lt1 ((Int32.toInt64 v1) : Int64) (fun x1 => (if inb v2 8 = true then (if v3 = 0 then none else lt1 ((((Int32.toInt64 v1) * (Int32.toInt64 (g 205 (Int32.toNatClampNeg v2)))) - ((Int32.toInt64 v1) * (Int32.toInt64 (g 205 (Int32.toNatClampNeg v2)))) / v3 * v3) : Int64) (fun x2 => (reckoning_shareOf_61 F v1 v2 v3 x1 0 x2 0 g))) else none))
        else
          (some 0))
      else
        (if inb v5 8 = true then lt1 ((v3 + (Int32.toInt64 (g 205 (Int32.toNatClampNeg v5)))) : Int64) (fun x3 => (reckoning_shareOf_5 F n v1 v2 x3 (v5 + 1) g)) else none)))
    refine L_s (pc' := 7) rfl rfl ?_
    refine L_bi (pc' := 9) rfl q2_8 rfl ?_
    refine L_br (t := 29) (n := 12) rfl rfl (fun _ => ?_) (fun _ => ?_)
    · refine L_s (pc' := 30) rfl rfl ?_
      refine L_s (pc' := 31) (st' := [.long 0, .long v3]) rfl rfl ?_
      refine L_s (pc' := 32) rfl rfl ?_
      refine L_br (t := 37) (n := 35) rfl rfl (fun _ => ?_) (fun _ => ?_)
      · refine L_s (pc' := 38) rfl rfl ?_
        refine L_s (pc' := 39) rfl rfl ?_
        refine L_ll fun x1 _ => ?_
        refine L_s (pc' := 41) (L' := [some (.ref 200), some (.int v1), some (.int v2), some (.long v3), none, some (.long x1), none, none, none, none, none, none, none]) rfl rfl ?_
        refine L_ic (pc' := 42) rfl q1_0 rfl ?_
        refine L_s (pc' := 44) (L' := [some (.ref 200), some (.int v1), some (.int v2), some (.long v3), none, some (.long x1), none, some (.int 0), none, none, none, none, none]) rfl rfl ?_
        refine L_s (pc' := 45) rfl rfl ?_
        refine L_s (pc' := 46) rfl rfl ?_
        refine L_s (pc' := 47) rfl rfl ?_
        refine L_gf (pc' := 50) rfl fr_200_4 rfl ?_
        refine L_s (pc' := 51) rfl rfl ?_
        refine L_rI (pc' := 52) rfl sh_205 (by decide) rfl ?_
        refine L_s (pc' := 53) rfl rfl ?_
        refine L_s (pc' := 54) rfl rfl ?_
        refine L_s (pc' := 55) rfl rfl ?_
        refine L_lrm (pc' := 56) rfl rfl ?_
        refine L_ll fun x2 _ => ?_
        refine L_s (pc' := 58) (L' := [some (.ref 200), some (.int v1), some (.int v2), some (.long v3), none, some (.long x1), none, some (.int 0), some (.long x2), none, none, none, none]) rfl rfl ?_
        refine L_ic (pc' := 59) rfl q1_0 rfl ?_
        refine L_s (pc' := 61) (L' := [some (.ref 200), some (.int v1), some (.int v2), some (.long v3), none, some (.long x1), none, some (.int 0), some (.long x2), none, some (.int 0), none, none]) rfl rfl ?_
        exact p_reckoning_shareOf_61 hd F _ _ _ _ _ _ _
      · refine L_ic (pc' := 36) rfl q1_0 rfl ?_
        exact L_ret rfl ret_i rfl
    · refine L_s (pc' := 13) rfl rfl ?_
      refine L_s (pc' := 14) rfl rfl ?_
      refine L_gf (pc' := 17) rfl fr_200_4 rfl ?_
      refine L_s (pc' := 19) rfl rfl ?_
      refine L_rI (pc' := 20) rfl sh_205 (by decide) rfl ?_
      refine L_s (pc' := 21) rfl rfl ?_
      refine L_s (pc' := 22) rfl rfl ?_
      refine L_ll fun x3 _ => ?_
      refine L_s (pc' := 23) (L' := [some (.ref 200), some (.int v1), some (.int v2), some (.long x3), none, some (.int v5), none, none, none, none, none, none, none]) rfl rfl ?_
      refine L_ii (pc' := 26) (L' := [some (.ref 200), some (.int v1), some (.int v2), some (.long x3), none, some (.int (v5 + 1)), none, none, none, none, none, none, none]) rfl rfl q1_1 rfl rfl rfl ?_
      refine L_s (pc' := 5) rfl rfl ?_
      exact ih _ _ _ _
theorem e_reckoning_shareOf {X : Xx} {d : Nat} (hd : 1 ≤ d) (F : Nat) (v1 : Int32) (v2 : Int32) (g : Sg) : ∀ r, reckoning_shareOf F v1 v2 g = some r → EvM zft mtl X d 69 [.ref 200, .int v1, .int v2] (SHF, g) ((fun r : Int32 => ((some (.int r), (SHF, g)) : Out)) r) := by
  obtain ⟨d, rfl⟩ : ∃ d0, d = d0 + 1 := ⟨d - 1, by omega⟩
  have hd : 0 ≤ d := by omega
  refine E_in (f := (fun r : Int32 => ((some (.int r), (SHF, g)) : Out))) rfl (Nat.le_of_ble_eq_true rfl) ?_
  unfold reckoning_shareOf
  change Lt X d (some .int) k_69 _ 0 [some (.ref 200), some (.int v1), some (.int v2), none, none, none, none, none, none, none, none, none, none] [] g _
  refine L_s (pc' := 1) (st' := [.long 0]) rfl rfl ?_
  refine L_s (pc' := 2) (L' := [some (.ref 200), some (.int v1), some (.int v2), some (.long 0), none, none, none, none, none, none, none, none, none]) rfl rfl ?_
  refine L_ic (pc' := 3) rfl q1_0 rfl ?_
  refine L_s (pc' := 5) (L' := [some (.ref 200), some (.int v1), some (.int v2), some (.long 0), none, some (.int 0), none, none, none, none, none, none, none]) rfl rfl ?_
  exact p_reckoning_shareOf_5 hd F F _ _ _ _
def x_duty (F : Nat) (v1 : Int32) (v2 : Int32) (v3 : Int32) (g : Sg) : Option (Int32 × Sg) :=
  Option.bind (x_within v1 0 9999 g) (fun x1 => (if x1 = 0 then
    (some ((-1), g))
  else
    Option.bind (x_isWeek v2 g) (fun x2 => (if x2 = 0 then
      (some ((-1), g))
    else
      Option.bind (x_isHolder v3 g) (fun x3 => (if ¬ x3 = 0 then
        Option.bind (reckoning_reckon F v2 g) (fun g4 => Option.bind (reckoning_shareOf F v1 v3 g4) (fun x5 => (some (x5, g4))))
      else
        (some ((-1), g))))))))
theorem e_x_duty {X : Xx} {d : Nat} (hd : 6 ≤ d) (F : Nat) (v1 : Int32) (v2 : Int32) (v3 : Int32) (g : Sg) : ∀ r, x_duty F v1 v2 v3 g = some r → EvM zft mtl X d 131 [.ref 0, .int v1, .int v2, .int v3] (SHF, g) ((fun r : Int32 × Sg => ((some (.int r.1), (SHF, r.2)) : Out)) r) := by
  obtain ⟨d, rfl⟩ : ∃ d0, d = d0 + 1 := ⟨d - 1, by omega⟩
  have hd : 5 ≤ d := by omega
  refine E_in (f := (fun r : Int32 × Sg => ((some (.int r.1), (SHF, r.2)) : Out))) rfl (Nat.le_of_ble_eq_true rfl) ?_
  unfold x_duty
  change Lt X d (some .int) k_131 _ 0 [some (.ref 0), some (.int v1), some (.int v2), some (.int v3)] [] g _
  refine L_s (pc' := 1) rfl rfl ?_
  refine L_ic (pc' := 2) rfl q1_0 rfl ?_
  refine L_si (pc' := 5) rfl q3_9999 rfl ?_
  refine L_ci (pc' := 8) (as := [.int v1, .int 0, .int 9999]) (rest := []) rfl rfl (e_x_within (by omega) _ _ _ _) rfl fun x1 => ?_
  refine L_br (t := 25) (n := 11) rfl rfl (fun _ => ?_) (fun _ => ?_)
  · refine L_ic (pc' := 26) rfl q1_m1 rfl ?_
    exact L_ret rfl ret_i rfl
  · refine L_s (pc' := 12) rfl rfl ?_
    refine L_ci (pc' := 15) (as := [.int v2]) (rest := []) rfl rfl (e_x_isWeek (by omega) _ _) rfl fun x2 => ?_
    refine L_br (t := 25) (n := 18) rfl rfl (fun _ => ?_) (fun _ => ?_)
    · refine L_ic (pc' := 26) rfl q1_m1 rfl ?_
      exact L_ret rfl ret_i rfl
    · refine L_s (pc' := 19) rfl rfl ?_
      refine L_ci (pc' := 22) (as := [.int v3]) (rest := []) rfl rfl (e_x_isHolder (by omega) _ _) rfl fun x3 => ?_
      refine L_br (t := 27) (n := 25) rfl rfl (fun _ => ?_) (fun _ => ?_)
      · refine L_s (pc' := 28) rfl rfl ?_
        refine L_gf (pc' := 31) rfl fr_0_5 rfl ?_
        refine L_s (pc' := 32) rfl rfl ?_
        refine L_gf (pc' := 35) rfl fr_0_0 rfl ?_
        refine L_s (pc' := 36) rfl rfl ?_
        refine L_s (pc' := 37) rfl rfl ?_
        refine L_gf (pc' := 40) rfl fr_0_3 rfl ?_
        refine L_cv (pc' := 43) (as := [.ref 200, .ref 1, .int v2, .ref 187]) (rest := []) rfl rfl (e_reckoning_reckon (by omega) F _ _) rfl fun g4 => ?_
        refine L_s (pc' := 44) rfl rfl ?_
        refine L_gf (pc' := 47) rfl fr_0_5 rfl ?_
        refine L_s (pc' := 48) rfl rfl ?_
        refine L_s (pc' := 49) rfl rfl ?_
        refine L_ci (pc' := 52) (as := [.ref 200, .int v1, .int v3]) (rest := []) rfl rfl (e_reckoning_shareOf (by omega) F _ _ _) rfl fun x5 => ?_
        exact L_ret rfl ret_i rfl
      · refine L_ic (pc' := 26) rfl q1_m1 rfl ?_
        exact L_ret rfl ret_i rfl
