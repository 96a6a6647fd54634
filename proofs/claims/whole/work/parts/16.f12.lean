/-! printed by wip/whole/decomp.py -/
def m_adds_k1_3 (v3 : Int32) (g : Sg) : Option (Int32 × Sg) :=
  lt1 (up2 g 216 20 ((g 216 20) + v3)) (fun g1 => (some (v3, g1)))
theorem e_m_adds_k1_3 {X : Xx} {d : Nat} (hd : 1 ≤ d) (v3 : Int32) (g : Sg) : ∀ r, m_adds_k1_3 v3 g = some r → EvM zft mtl X d 167 [.ref 215, .int 1, .int 3, .int v3] (SHF, g) ((fun r : Int32 × Sg => ((some (.int r.1), (SHF, r.2)) : Out)) r) := by
  obtain ⟨d, rfl⟩ : ∃ d0, d = d0 + 1 := ⟨d - 1, by omega⟩
  have hd : 0 ≤ d := by omega
  refine E_in (f := (fun r : Int32 × Sg => ((some (.int r.1), (SHF, r.2)) : Out))) rfl (Nat.le_of_ble_eq_true rfl) ?_
  unfold m_adds_k1_3
  change Lt X d (some .int) k_167 _ 0 [some (.ref 215), some (.int 1), some (.int 3), some (.int v3)] [] g _
  refine L_s (pc' := 1) rfl rfl ?_
  refine L_gf (pc' := 4) rfl fr_215_0 rfl ?_
  refine L_bi (pc' := 6) rfl q2_10 rfl ?_
  refine L_bi (pc' := 8) rfl q2_7 rfl ?_
  refine L_s (pc' := 9) rfl rfl ?_
  refine L_s (pc' := 10) rfl rfl ?_
  refine L_e (b := 7) (by decide) ?_
  refine L_s (pc' := 11) rfl rfl ?_
  refine L_e (b := 17) (by decide) ?_
  refine L_s (pc' := 12) rfl rfl ?_
  refine L_s (pc' := 13) rfl rfl ?_
  refine L_e (b := 20) (by decide) ?_
  refine L_s (pc' := 14) rfl rfl ?_
  refine L_rIk (pc' := 15) (j := 20) rfl sh_216 (by decide) (by decide) (by decide) rfl ?_
  refine L_s (pc' := 16) rfl rfl ?_
  refine L_s (pc' := 17) rfl rfl ?_
  refine L_wIk (pc' := 18) (j := 20) rfl sh_216 (by decide) (by decide) (by decide) rfl ?_
  refine L_let fun g1 _ => ?_
  refine L_s (pc' := 19) rfl rfl ?_
  exact L_ret rfl ret_i rfl
def m_comes_k1_5 : Nat → Int32 → Int32 → Int32 → Sg → Option (Int32 × Sg)
  | 0, _, _, _, _ => none
  | n + 1, v2, v3, v4, g =>
    (if (g 216 1) ≤ v4 then
      Option.bind (m_adds_k1_3 (-v3) g) (fun (x1, g2) => (some (v3, g2)))
    else
      Option.bind (m_channelOf_k1 v4 g) (fun x3 => (if x3 = v2 then
        Option.bind (m_wayAt_k1 v4 (g 216 3) g) (fun x4 => (if inb x4 20360 = true then lt1 ((v3 + (g 216 (Int32.toNatClampNeg x4))) : Int32) (fun x5 => (if inb x4 20360 = true then lt1 (up2 g 216 (Int32.toNatClampNeg x4) 0) (fun g6 => (m_comes_k1_5 n v2 x5 (v4 + 1) g6)) else none)) else none))
      else
        (m_comes_k1_5 n v2 v3 (v4 + 1) g))))
def m_comes_k1 (F : Nat) (v2 : Int32) (g : Sg) : Option (Int32 × Sg) :=
  (m_comes_k1_5 F v2 0 0 g)
theorem p_m_comes_k1_5 {X : Xx} {d : Nat} (hd : 1 ≤ d) : ∀ (n : Nat) (v2 : Int32) (v3 : Int32) (v4 : Int32) (g : Sg), Lt X d (some .int) k_168 (fun r : Int32 × Sg => ((some (.int r.1), (SHF, r.2)) : Out)) 5 [some (.ref 215), some (.int 1), some (.int v2), some (.int v3), some (.int v4), none] [] g (m_comes_k1_5 n v2 v3 v4 g) := by
  intro n
  induction n with
  | zero => intros; exact L_none
  | succ n ih =>
    intro v2 v3 v4 g
    show Lt X d (some .int) k_168 (fun r : Int32 × Sg => ((some (.int r.1), (SHF, r.2)) : Out)) 5 [some (.ref 215), some (.int 1), some (.int v2), some (.int v3), some (.int v4), none] [] g (
      (if (g 216 1) ≤ v4 then
        Option.bind (m_adds_k1_3 (-v3) g) (fun (x1, g2) => (some (v3, g2)))
      else
        Option.bind (m_channelOf_k1 v4 g) (fun x3 => (if x3 = v2 then
          Option.bind (m_wayAt_k1 v4 (g 216 3) g) (fun x4 => (if inb x4 20360 = true then lt1 ((v3 + (g 216 (Int32.toNatClampNeg x4))) : Int32) (fun x5 => (if inb x4 20360 = true then lt1 (up2 g 216 (Int32.toNatClampNeg x4) 0) (fun g6 => (m_comes_k1_5 n v2 x5 (v4 + 1) g6)) else none)) else none))
        else
          (m_comes_k1_5 n v2 v3 (v4 + 1) g)))))
    refine L_s (pc' := 7) rfl rfl ?_
    refine L_s (pc' := 8) rfl rfl ?_
    refine L_gf (pc' := 11) rfl fr_215_0 rfl ?_
    refine L_ic (pc' := 12) rfl q1_1 rfl ?_
    refine L_rIk (pc' := 13) (j := 1) rfl sh_216 (by decide) (by decide) (by decide) rfl ?_
    refine L_br (t := 69) (n := 16) rfl rfl (fun _ => ?_) (fun _ => ?_)
    · refine L_s (pc' := 70) rfl rfl ?_
      refine L_s (pc' := 71) rfl rfl ?_
      refine L_ic (pc' := 72) rfl q1_3 rfl ?_
      refine L_s (pc' := 73) rfl rfl ?_
      refine L_s (pc' := 74) rfl rfl ?_
      refine L_cig (pc' := 77) (as := [.ref 215, .int 1, .int 3, .int (-v3)]) (rest := []) rfl rfl (e_m_adds_k1_3 (by omega) _ _) rfl fun x1 g2 => ?_
      refine L_s (pc' := 78) rfl rfl ?_
      refine L_s (pc' := 79) rfl rfl ?_
      exact L_ret rfl ret_i rfl
    · refine L_s (pc' := 17) rfl rfl ?_
      refine L_s (pc' := 19) rfl rfl ?_
      refine L_ic (pc' := 20) rfl q1_1 rfl ?_
      refine L_ci (pc' := 23) (as := [.ref 215, .int v4, .int 1]) (rest := []) rfl rfl (e_m_channelOf_k1 (by omega) _ _) rfl fun x3 => ?_
      refine L_s (pc' := 24) rfl rfl ?_
      refine L_br (t := 30) (n := 27) rfl rfl (fun _ => ?_) (fun _ => ?_)
      · refine L_s (pc' := 31) rfl rfl ?_
        refine L_s (pc' := 32) rfl rfl ?_
        refine L_s (pc' := 34) rfl rfl ?_
        refine L_s (pc' := 35) rfl rfl ?_
        refine L_gf (pc' := 38) rfl fr_215_0 rfl ?_
        refine L_ic (pc' := 39) rfl q1_3 rfl ?_
        refine L_rIk (pc' := 40) (j := 3) rfl sh_216 (by decide) (by decide) (by decide) rfl ?_
        refine L_ci (pc' := 43) (as := [.ref 215, .int 1, .int v4, .int (g 216 3)]) (rest := []) rfl rfl (e_m_wayAt_k1 (by omega) _ _ _) rfl fun x4 => ?_
        refine L_s (pc' := 45) (L' := [some (.ref 215), some (.int 1), some (.int v2), some (.int v3), some (.int v4), some (.int x4)]) rfl rfl ?_
        refine L_s (pc' := 46) rfl rfl ?_
        refine L_s (pc' := 47) rfl rfl ?_
        refine L_gf (pc' := 50) rfl fr_215_0 rfl ?_
        refine L_s (pc' := 52) rfl rfl ?_
        refine L_rI (pc' := 53) rfl sh_216 (by decide) rfl ?_
        refine L_s (pc' := 54) rfl rfl ?_
        refine L_li fun x5 _ => ?_
        refine L_s (pc' := 55) (L' := [some (.ref 215), some (.int 1), some (.int v2), some (.int x5), some (.int v4), some (.int x4)]) rfl rfl ?_
        refine L_s (pc' := 56) rfl rfl ?_
        refine L_gf (pc' := 59) rfl fr_215_0 rfl ?_
        refine L_s (pc' := 61) rfl rfl ?_
        refine L_ic (pc' := 62) rfl q1_0 rfl ?_
        refine L_wI (pc' := 63) rfl sh_216 (by decide) rfl ?_
        refine L_let fun g6 _ => ?_
        refine L_ii (pc' := 66) (L' := [some (.ref 215), some (.int 1), some (.int v2), some (.int x5), some (.int (v4 + 1)), some (.int x4)]) rfl rfl q1_1 rfl rfl rfl ?_
        refine L_s (pc' := 5) rfl rfl ?_
        refine L_wk (L' := [some (.ref 215), some (.int 1), some (.int v2), some (.int x5), some (.int (v4 + 1)), none]) (wk_s (wk_s (wk_s (wk_s (wk_s (wk_n wk_nil)))))) ?_
        exact ih _ _ _ _
      · refine L_s (pc' := 63) rfl rfl ?_
        refine L_ii (pc' := 66) (L' := [some (.ref 215), some (.int 1), some (.int v2), some (.int v3), some (.int (v4 + 1)), none]) rfl rfl q1_1 rfl rfl rfl ?_
        refine L_s (pc' := 5) rfl rfl ?_
        exact ih _ _ _ _
theorem e_m_comes_k1 {X : Xx} {d : Nat} (hd : 2 ≤ d) (F : Nat) (v2 : Int32) (g : Sg) : ∀ r, m_comes_k1 F v2 g = some r → EvM zft mtl X d 168 [.ref 215, .int 1, .int v2] (SHF, g) ((fun r : Int32 × Sg => ((some (.int r.1), (SHF, r.2)) : Out)) r) := by
  obtain ⟨d, rfl⟩ : ∃ d0, d = d0 + 1 := ⟨d - 1, by omega⟩
  have hd : 1 ≤ d := by omega
  refine E_in (f := (fun r : Int32 × Sg => ((some (.int r.1), (SHF, r.2)) : Out))) rfl (Nat.le_of_ble_eq_true rfl) ?_
  unfold m_comes_k1
  change Lt X d (some .int) k_168 _ 0 [some (.ref 215), some (.int 1), some (.int v2), none, none, none] [] g _
  refine L_ic (pc' := 1) rfl q1_0 rfl ?_
  refine L_s (pc' := 2) (L' := [some (.ref 215), some (.int 1), some (.int v2), some (.int 0), none, none]) rfl rfl ?_
  refine L_ic (pc' := 3) rfl q1_0 rfl ?_
  refine L_s (pc' := 5) (L' := [some (.ref 215), some (.int 1), some (.int v2), some (.int 0), some (.int 0), none]) rfl rfl ?_
  exact p_m_comes_k1_5 hd F _ _ _ _
def m_channelOf_k5 (v1 : Int32) (g : Sg) : Option (Int32) :=
  (if inb ((190 + (7 * v1)) + 5) 20360 = true then (some (g 216 (Int32.toNatClampNeg ((190 + (7 * v1)) + 5)))) else none)
theorem e_m_channelOf_k5 {X : Xx} {d : Nat} (hd : 1 ≤ d) (v1 : Int32) (g : Sg) : ∀ r, m_channelOf_k5 v1 g = some r → EvM zft mtl X d 153 [.ref 215, .int v1, .int 5] (SHF, g) ((fun r : Int32 => ((some (.int r), (SHF, g)) : Out)) r) := by
  obtain ⟨d, rfl⟩ : ∃ d0, d = d0 + 1 := ⟨d - 1, by omega⟩
  have hd : 0 ≤ d := by omega
  refine E_in (f := (fun r : Int32 => ((some (.int r), (SHF, g)) : Out))) rfl (Nat.le_of_ble_eq_true rfl) ?_
  unfold m_channelOf_k5
  change Lt X d (some .int) k_153 _ 0 [some (.ref 215), some (.int v1), some (.int 5)] [] g _
  refine L_s (pc' := 1) rfl rfl ?_
  refine L_gf (pc' := 4) rfl fr_215_0 rfl ?_
  refine L_si (pc' := 7) rfl q3_190 rfl ?_
  refine L_bi (pc' := 9) rfl q2_7 rfl ?_
  refine L_s (pc' := 10) rfl rfl ?_
  refine L_s (pc' := 11) rfl rfl ?_
  refine L_s (pc' := 12) rfl rfl ?_
  refine L_s (pc' := 13) rfl rfl ?_
  refine L_s (pc' := 14) rfl rfl ?_
  refine L_rI (pc' := 15) rfl sh_216 (by decide) rfl ?_
  exact L_ret rfl ret_i rfl
def m_adds_k1_4 (v3 : Int32) (g : Sg) : Option (Int32 × Sg) :=
  lt1 (up2 g 216 21 ((g 216 21) + v3)) (fun g1 => (some (v3, g1)))
theorem e_m_adds_k1_4 {X : Xx} {d : Nat} (hd : 1 ≤ d) (v3 : Int32) (g : Sg) : ∀ r, m_adds_k1_4 v3 g = some r → EvM zft mtl X d 167 [.ref 215, .int 1, .int 4, .int v3] (SHF, g) ((fun r : Int32 × Sg => ((some (.int r.1), (SHF, r.2)) : Out)) r) := by
  obtain ⟨d, rfl⟩ : ∃ d0, d = d0 + 1 := ⟨d - 1, by omega⟩
  have hd : 0 ≤ d := by omega
  refine E_in (f := (fun r : Int32 × Sg => ((some (.int r.1), (SHF, r.2)) : Out))) rfl (Nat.le_of_ble_eq_true rfl) ?_
  unfold m_adds_k1_4
  change Lt X d (some .int) k_167 _ 0 [some (.ref 215), some (.int 1), some (.int 4), some (.int v3)] [] g _
  refine L_s (pc' := 1) rfl rfl ?_
  refine L_gf (pc' := 4) rfl fr_215_0 rfl ?_
  refine L_bi (pc' := 6) rfl q2_10 rfl ?_
  refine L_bi (pc' := 8) rfl q2_7 rfl ?_
  refine L_s (pc' := 9) rfl rfl ?_
  refine L_s (pc' := 10) rfl rfl ?_
  refine L_e (b := 7) (by decide) ?_
  refine L_s (pc' := 11) rfl rfl ?_
  refine L_e (b := 17) (by decide) ?_
  refine L_s (pc' := 12) rfl rfl ?_
  refine L_s (pc' := 13) rfl rfl ?_
  refine L_e (b := 21) (by decide) ?_
  refine L_s (pc' := 14) rfl rfl ?_
  refine L_rIk (pc' := 15) (j := 21) rfl sh_216 (by decide) (by decide) (by decide) rfl ?_
  refine L_s (pc' := 16) rfl rfl ?_
  refine L_s (pc' := 17) rfl rfl ?_
  refine L_wIk (pc' := 18) (j := 21) rfl sh_216 (by decide) (by decide) (by decide) rfl ?_
  refine L_let fun g1 _ => ?_
  refine L_s (pc' := 19) rfl rfl ?_
  exact L_ret rfl ret_i rfl
def m_channelOf (v1 : Int32) (v2 : Int32) (g : Sg) : Option (Int32) :=
  (if inb ((190 + (7 * v1)) + v2) 20360 = true then (some (g 216 (Int32.toNatClampNeg ((190 + (7 * v1)) + v2)))) else none)
theorem e_m_channelOf {X : Xx} {d : Nat} (hd : 1 ≤ d) (v1 : Int32) (v2 : Int32) (g : Sg) : ∀ r, m_channelOf v1 v2 g = some r → EvM zft mtl X d 153 [.ref 215, .int v1, .int v2] (SHF, g) ((fun r : Int32 => ((some (.int r), (SHF, g)) : Out)) r) := by
  obtain ⟨d, rfl⟩ : ∃ d0, d = d0 + 1 := ⟨d - 1, by omega⟩
  have hd : 0 ≤ d := by omega
  refine E_in (f := (fun r : Int32 => ((some (.int r), (SHF, g)) : Out))) rfl (Nat.le_of_ble_eq_true rfl) ?_
  unfold m_channelOf
  change Lt X d (some .int) k_153 _ 0 [some (.ref 215), some (.int v1), some (.int v2)] [] g _
  refine L_s (pc' := 1) rfl rfl ?_
  refine L_gf (pc' := 4) rfl fr_215_0 rfl ?_
  refine L_si (pc' := 7) rfl q3_190 rfl ?_
  refine L_bi (pc' := 9) rfl q2_7 rfl ?_
  refine L_s (pc' := 10) rfl rfl ?_
  refine L_s (pc' := 11) rfl rfl ?_
  refine L_s (pc' := 12) rfl rfl ?_
  refine L_s (pc' := 13) rfl rfl ?_
  refine L_s (pc' := 14) rfl rfl ?_
  refine L_rI (pc' := 15) rfl sh_216 (by decide) rfl ?_
  exact L_ret rfl ret_i rfl
def m_adds (v1 : Int32) (v2 : Int32) (v3 : Int32) (g : Sg) : Option (Int32 × Sg) :=
  (if inb ((10 + (7 * v1)) + v2) 20360 = true then (if inb ((10 + (7 * v1)) + v2) 20360 = true then lt1 (up2 g 216 (Int32.toNatClampNeg ((10 + (7 * v1)) + v2)) ((g 216 (Int32.toNatClampNeg ((10 + (7 * v1)) + v2))) + v3)) (fun g1 => (some (v3, g1))) else none) else none)
theorem e_m_adds {X : Xx} {d : Nat} (hd : 1 ≤ d) (v1 : Int32) (v2 : Int32) (v3 : Int32) (g : Sg) : ∀ r, m_adds v1 v2 v3 g = some r → EvM zft mtl X d 167 [.ref 215, .int v1, .int v2, .int v3] (SHF, g) ((fun r : Int32 × Sg => ((some (.int r.1), (SHF, r.2)) : Out)) r) := by
  obtain ⟨d, rfl⟩ : ∃ d0, d = d0 + 1 := ⟨d - 1, by omega⟩
  have hd : 0 ≤ d := by omega
  refine E_in (f := (fun r : Int32 × Sg => ((some (.int r.1), (SHF, r.2)) : Out))) rfl (Nat.le_of_ble_eq_true rfl) ?_
  unfold m_adds
  change Lt X d (some .int) k_167 _ 0 [some (.ref 215), some (.int v1), some (.int v2), some (.int v3)] [] g _
  refine L_s (pc' := 1) rfl rfl ?_
  refine L_gf (pc' := 4) rfl fr_215_0 rfl ?_
  refine L_bi (pc' := 6) rfl q2_10 rfl ?_
  refine L_bi (pc' := 8) rfl q2_7 rfl ?_
  refine L_s (pc' := 9) rfl rfl ?_
  refine L_s (pc' := 10) rfl rfl ?_
  refine L_s (pc' := 11) rfl rfl ?_
  refine L_s (pc' := 12) rfl rfl ?_
  refine L_s (pc' := 13) rfl rfl ?_
  refine L_s (pc' := 14) rfl rfl ?_
  refine L_rI (pc' := 15) rfl sh_216 (by decide) rfl ?_
  refine L_s (pc' := 16) rfl rfl ?_
  refine L_s (pc' := 17) rfl rfl ?_
  refine L_wI (pc' := 18) rfl sh_216 (by decide) rfl ?_
  refine L_let fun g1 _ => ?_
  refine L_s (pc' := 19) rfl rfl ?_
  exact L_ret rfl ret_i rfl
def m_adds_k1_6 (v3 : Int32) (g : Sg) : Option (Int32 × Sg) :=
  lt1 (up2 g 216 23 ((g 216 23) + v3)) (fun g1 => (some (v3, g1)))
theorem e_m_adds_k1_6 {X : Xx} {d : Nat} (hd : 1 ≤ d) (v3 : Int32) (g : Sg) : ∀ r, m_adds_k1_6 v3 g = some r → EvM zft mtl X d 167 [.ref 215, .int 1, .int 6, .int v3] (SHF, g) ((fun r : Int32 × Sg => ((some (.int r.1), (SHF, r.2)) : Out)) r) := by
  obtain ⟨d, rfl⟩ : ∃ d0, d = d0 + 1 := ⟨d - 1, by omega⟩
  have hd : 0 ≤ d := by omega
  refine E_in (f := (fun r : Int32 × Sg => ((some (.int r.1), (SHF, r.2)) : Out))) rfl (Nat.le_of_ble_eq_true rfl) ?_
  unfold m_adds_k1_6
  change Lt X d (some .int) k_167 _ 0 [some (.ref 215), some (.int 1), some (.int 6), some (.int v3)] [] g _
  refine L_s (pc' := 1) rfl rfl ?_
  refine L_gf (pc' := 4) rfl fr_215_0 rfl ?_
  refine L_bi (pc' := 6) rfl q2_10 rfl ?_
  refine L_bi (pc' := 8) rfl q2_7 rfl ?_
  refine L_s (pc' := 9) rfl rfl ?_
  refine L_s (pc' := 10) rfl rfl ?_
  refine L_e (b := 7) (by decide) ?_
  refine L_s (pc' := 11) rfl rfl ?_
  refine L_e (b := 17) (by decide) ?_
  refine L_s (pc' := 12) rfl rfl ?_
  refine L_s (pc' := 13) rfl rfl ?_
  refine L_e (b := 23) (by decide) ?_
  refine L_s (pc' := 14) rfl rfl ?_
  refine L_rIk (pc' := 15) (j := 23) rfl sh_216 (by decide) (by decide) (by decide) rfl ?_
  refine L_s (pc' := 16) rfl rfl ?_
  refine L_s (pc' := 17) rfl rfl ?_
  refine L_wIk (pc' := 18) (j := 23) rfl sh_216 (by decide) (by decide) (by decide) rfl ?_
  refine L_let fun g1 _ => ?_
  refine L_s (pc' := 19) rfl rfl ?_
  exact L_ret rfl ret_i rfl
def m_sends_k1_36 (v2 : Int32) (v3 : Int32) (s0 : Int32) (s1 : Int32) (s3 : Int32) (s4 : Int32) (s5 : Int32) (g : Sg) : Option (Sg) :=
  Option.bind (m_channelOf s1 s0 g) (fun x1 => Option.bind (m_adds s5 s4 ((s3 * x1) / 1000) g) (fun (x2, g3) => Option.bind (m_channelOf_k4 v2 g3) (fun x4 => Option.bind (m_wayAt_k1 v2 ((g3 216 3) + x4) g3) (fun x5 => (if inb x5 20360 = true then Option.bind (m_adds_k1_3 (v3 - x2) g3) (fun (x6, g7) => (if inb x5 20360 = true then lt1 (up2 g7 216 (Int32.toNatClampNeg x5) ((g3 216 (Int32.toNatClampNeg x5)) + x6)) (fun g8 => (some g8)) else none)) else none)))))
def m_sends_k1 (v2 : Int32) (v3 : Int32) (g : Sg) : Option (Sg) :=
  Option.bind (m_channelOf_k6 v2 g) (fun x1 => (if ¬ x1 = 1 then
    (m_sends_k1_36 v2 v3 2 v2 v3 5 1 g)
  else
    Option.bind (m_adds_k1_6 v3 g) (fun (x2, g3) => (some g3))))
theorem p_m_sends_k1_36 {X : Xx} {d : Nat} (hd : 1 ≤ d) (v2 : Int32) (v3 : Int32) (s0 : Int32) (s1 : Int32) (s3 : Int32) (s4 : Int32) (s5 : Int32) (g : Sg) : Lt X d none k_169 (fun r : Sg => ((none, (SHF, r)) : Out)) 36 [some (.ref 215), some (.int 1), some (.int v2), some (.int v3), none] [.int s0, .int s1, .ref 215, .int s3, .int s4, .int s5, .ref 215] g (m_sends_k1_36 v2 v3 s0 s1 s3 s4 s5 g) := by
  unfold m_sends_k1_36
  refine L_ci (pc' := 39) (as := [.ref 215, .int s1, .int s0]) (rest := [.int s3, .int s4, .int s5, .ref 215]) rfl rfl (e_m_channelOf (by omega) _ _ _) rfl fun x1 => ?_
  refine L_s (pc' := 40) rfl rfl ?_
  refine L_si (pc' := 43) rfl q3_1000 rfl ?_
  refine L_dvk (pc' := 44) rfl (by decide) rfl ?_
  refine L_cig (pc' := 47) (as := [.ref 215, .int s5, .int s4, .int ((s3 * x1) / 1000)]) (rest := []) rfl rfl (e_m_adds (by omega) _ _ _ _) rfl fun x2 g3 => ?_
  refine L_s (pc' := 49) (L' := [some (.ref 215), some (.int 1), some (.int v2), some (.int v3), some (.int x2)]) rfl rfl ?_
  refine L_s (pc' := 50) rfl rfl ?_
  refine L_gf (pc' := 53) rfl fr_215_0 rfl ?_
  refine L_s (pc' := 54) rfl rfl ?_
  refine L_s (pc' := 55) rfl rfl ?_
  refine L_s (pc' := 56) rfl rfl ?_
  refine L_s (pc' := 57) rfl rfl ?_
  refine L_gf (pc' := 60) rfl fr_215_0 rfl ?_
  refine L_ic (pc' := 61) rfl q1_3 rfl ?_
  refine L_rIk (pc' := 62) (j := 3) rfl sh_216 (by decide) (by decide) (by decide) rfl ?_
  refine L_s (pc' := 63) rfl rfl ?_
  refine L_s (pc' := 64) rfl rfl ?_
  refine L_ic (pc' := 65) rfl q1_4 rfl ?_
  refine L_ci (pc' := 68) (as := [.ref 215, .int v2, .int 4]) (rest := [.int (g3 216 3), .int v2, .int 1, .ref 215, .ref 216]) rfl rfl (e_m_channelOf_k4 (by omega) _ _) rfl fun x4 => ?_
  refine L_s (pc' := 69) rfl rfl ?_
  refine L_ci (pc' := 72) (as := [.ref 215, .int 1, .int v2, .int ((g3 216 3) + x4)]) (rest := [.ref 216]) rfl rfl (e_m_wayAt_k1 (by omega) _ _ _) rfl fun x5 => ?_
  refine L_s (pc' := 73) rfl rfl ?_
  refine L_rI (pc' := 74) rfl sh_216 (by decide) rfl ?_
  refine L_s (pc' := 75) rfl rfl ?_
  refine L_s (pc' := 76) rfl rfl ?_
  refine L_ic (pc' := 77) rfl q1_3 rfl ?_
  refine L_s (pc' := 78) rfl rfl ?_
  refine L_s (pc' := 80) rfl rfl ?_
  refine L_s (pc' := 81) rfl rfl ?_
  refine L_cig (pc' := 84) (as := [.ref 215, .int 1, .int 3, .int (v3 - x2)]) (rest := [.int (g3 216 (Int32.toNatClampNeg x5)), .int x5, .ref 216]) rfl rfl (e_m_adds_k1_3 (by omega) _ _) rfl fun x6 g7 => ?_
  refine L_s (pc' := 85) rfl rfl ?_
  refine L_wI (pc' := 86) rfl sh_216 (by decide) rfl ?_
  refine L_let fun g8 _ => ?_
  exact L_ret rfl rfl rfl
theorem e_m_sends_k1 {X : Xx} {d : Nat} (hd : 2 ≤ d) (v2 : Int32) (v3 : Int32) (g : Sg) : ∀ r, m_sends_k1 v2 v3 g = some r → EvM zft mtl X d 169 [.ref 215, .int 1, .int v2, .int v3] (SHF, g) ((fun r : Sg => ((none, (SHF, r)) : Out)) r) := by
  obtain ⟨d, rfl⟩ : ∃ d0, d = d0 + 1 := ⟨d - 1, by omega⟩
  have hd : 1 ≤ d := by omega
  refine E_in (f := (fun r : Sg => ((none, (SHF, r)) : Out))) rfl (Nat.le_of_ble_eq_true rfl) ?_
  unfold m_sends_k1
  change Lt X d none k_169 _ 0 [some (.ref 215), some (.int 1), some (.int v2), some (.int v3), none] [] g _
  refine L_s (pc' := 1) rfl rfl ?_
  refine L_s (pc' := 2) rfl rfl ?_
  refine L_bi (pc' := 4) rfl q2_6 rfl ?_
  refine L_ci (pc' := 7) (as := [.ref 215, .int v2, .int 6]) (rest := []) rfl rfl (e_m_channelOf_k6 (by omega) _ _) rfl fun x1 => ?_
  refine L_ic (pc' := 8) rfl q1_1 rfl ?_
  refine L_br (t := 21) (n := 11) rfl rfl (fun _ => ?_) (fun _ => ?_)
  · refine L_s (pc' := 22) rfl rfl ?_
    refine L_s (pc' := 23) rfl rfl ?_
    refine L_ic (pc' := 24) rfl q1_5 rfl ?_
    refine L_s (pc' := 25) rfl rfl ?_
    refine L_s (pc' := 26) rfl rfl ?_
    refine L_s (pc' := 27) rfl rfl ?_
    refine L_s (pc' := 28) rfl rfl ?_
    refine L_bt (c := ¬ (1 : Int32) = 0) (t := 35) (n := 31) rfl rfl (by decide) ?_
    refine L_ic (pc' := 36) rfl q1_2 rfl ?_
    exact p_m_sends_k1_36 hd _ _ _ _ _ _ _ _
  · refine L_s (pc' := 12) rfl rfl ?_
    refine L_s (pc' := 13) rfl rfl ?_
    refine L_bi (pc' := 15) rfl q2_6 rfl ?_
    refine L_s (pc' := 16) rfl rfl ?_
    refine L_cig (pc' := 19) (as := [.ref 215, .int 1, .int 6, .int v3]) (rest := []) rfl rfl (e_m_adds_k1_6 (by omega) _ _) rfl fun x2 g3 => ?_
    refine L_s (pc' := 20) rfl rfl ?_
    exact L_ret rfl rfl rfl
def m_adds_k1_2 (v3 : Int32) (g : Sg) : Option (Int32 × Sg) :=
  lt1 (up2 g 216 19 ((g 216 19) + v3)) (fun g1 => (some (v3, g1)))
theorem e_m_adds_k1_2 {X : Xx} {d : Nat} (hd : 1 ≤ d) (v3 : Int32) (g : Sg) : ∀ r, m_adds_k1_2 v3 g = some r → EvM zft mtl X d 167 [.ref 215, .int 1, .int 2, .int v3] (SHF, g) ((fun r : Int32 × Sg => ((some (.int r.1), (SHF, r.2)) : Out)) r) := by
  obtain ⟨d, rfl⟩ : ∃ d0, d = d0 + 1 := ⟨d - 1, by omega⟩
  have hd : 0 ≤ d := by omega
  refine E_in (f := (fun r : Int32 × Sg => ((some (.int r.1), (SHF, r.2)) : Out))) rfl (Nat.le_of_ble_eq_true rfl) ?_
  unfold m_adds_k1_2
  change Lt X d (some .int) k_167 _ 0 [some (.ref 215), some (.int 1), some (.int 2), some (.int v3)] [] g _
  refine L_s (pc' := 1) rfl rfl ?_
  refine L_gf (pc' := 4) rfl fr_215_0 rfl ?_
  refine L_bi (pc' := 6) rfl q2_10 rfl ?_
  refine L_bi (pc' := 8) rfl q2_7 rfl ?_
  refine L_s (pc' := 9) rfl rfl ?_
  refine L_s (pc' := 10) rfl rfl ?_
  refine L_e (b := 7) (by decide) ?_
  refine L_s (pc' := 11) rfl rfl ?_
  refine L_e (b := 17) (by decide) ?_
  refine L_s (pc' := 12) rfl rfl ?_
  refine L_s (pc' := 13) rfl rfl ?_
  refine L_e (b := 19) (by decide) ?_
  refine L_s (pc' := 14) rfl rfl ?_
  refine L_rIk (pc' := 15) (j := 19) rfl sh_216 (by decide) (by decide) (by decide) rfl ?_
  refine L_s (pc' := 16) rfl rfl ?_
  refine L_s (pc' := 17) rfl rfl ?_
  refine L_wIk (pc' := 18) (j := 19) rfl sh_216 (by decide) (by decide) (by decide) rfl ?_
  refine L_let fun g1 _ => ?_
  refine L_s (pc' := 19) rfl rfl ?_
  exact L_ret rfl ret_i rfl
def m_adds_k1_1 (v3 : Int32) (g : Sg) : Option (Int32 × Sg) :=
  lt1 (up2 g 216 18 ((g 216 18) + v3)) (fun g1 => (some (v3, g1)))
theorem e_m_adds_k1_1 {X : Xx} {d : Nat} (hd : 1 ≤ d) (v3 : Int32) (g : Sg) : ∀ r, m_adds_k1_1 v3 g = some r → EvM zft mtl X d 167 [.ref 215, .int 1, .int 1, .int v3] (SHF, g) ((fun r : Int32 × Sg => ((some (.int r.1), (SHF, r.2)) : Out)) r) := by
  obtain ⟨d, rfl⟩ : ∃ d0, d = d0 + 1 := ⟨d - 1, by omega⟩
  have hd : 0 ≤ d := by omega
  refine E_in (f := (fun r : Int32 × Sg => ((some (.int r.1), (SHF, r.2)) : Out))) rfl (Nat.le_of_ble_eq_true rfl) ?_
  unfold m_adds_k1_1
  change Lt X d (some .int) k_167 _ 0 [some (.ref 215), some (.int 1), some (.int 1), some (.int v3)] [] g _
  refine L_s (pc' := 1) rfl rfl ?_
  refine L_gf (pc' := 4) rfl fr_215_0 rfl ?_
  refine L_bi (pc' := 6) rfl q2_10 rfl ?_
  refine L_bi (pc' := 8) rfl q2_7 rfl ?_
  refine L_s (pc' := 9) rfl rfl ?_
  refine L_s (pc' := 10) rfl rfl ?_
  refine L_e (b := 7) (by decide) ?_
  refine L_s (pc' := 11) rfl rfl ?_
  refine L_e (b := 17) (by decide) ?_
  refine L_s (pc' := 12) rfl rfl ?_
  refine L_s (pc' := 13) rfl rfl ?_
  refine L_e (b := 18) (by decide) ?_
  refine L_s (pc' := 14) rfl rfl ?_
  refine L_rIk (pc' := 15) (j := 18) rfl sh_216 (by decide) (by decide) (by decide) rfl ?_
  refine L_s (pc' := 16) rfl rfl ?_
  refine L_s (pc' := 17) rfl rfl ?_
  refine L_wIk (pc' := 18) (j := 18) rfl sh_216 (by decide) (by decide) (by decide) rfl ?_
  refine L_let fun g1 _ => ?_
  refine L_s (pc' := 19) rfl rfl ?_
  exact L_ret rfl ret_i rfl
def m_adds_k1_0 (v3 : Int32) (g : Sg) : Option (Int32 × Sg) :=
  lt1 (up2 g 216 17 ((g 216 17) + v3)) (fun g1 => (some (v3, g1)))
theorem e_m_adds_k1_0 {X : Xx} {d : Nat} (hd : 1 ≤ d) (v3 : Int32) (g : Sg) : ∀ r, m_adds_k1_0 v3 g = some r → EvM zft mtl X d 167 [.ref 215, .int 1, .int 0, .int v3] (SHF, g) ((fun r : Int32 × Sg => ((some (.int r.1), (SHF, r.2)) : Out)) r) := by
  obtain ⟨d, rfl⟩ : ∃ d0, d = d0 + 1 := ⟨d - 1, by omega⟩
  have hd : 0 ≤ d := by omega
  refine E_in (f := (fun r : Int32 × Sg => ((some (.int r.1), (SHF, r.2)) : Out))) rfl (Nat.le_of_ble_eq_true rfl) ?_
  unfold m_adds_k1_0
  change Lt X d (some .int) k_167 _ 0 [some (.ref 215), some (.int 1), some (.int 0), some (.int v3)] [] g _
  refine L_s (pc' := 1) rfl rfl ?_
  refine L_gf (pc' := 4) rfl fr_215_0 rfl ?_
  refine L_bi (pc' := 6) rfl q2_10 rfl ?_
  refine L_bi (pc' := 8) rfl q2_7 rfl ?_
  refine L_s (pc' := 9) rfl rfl ?_
  refine L_s (pc' := 10) rfl rfl ?_
  refine L_e (b := 7) (by decide) ?_
  refine L_s (pc' := 11) rfl rfl ?_
  refine L_e (b := 17) (by decide) ?_
  refine L_s (pc' := 12) rfl rfl ?_
  refine L_s (pc' := 13) rfl rfl ?_
  refine L_e (b := 17) (by decide) ?_
  refine L_s (pc' := 14) rfl rfl ?_
  refine L_rIk (pc' := 15) (j := 17) rfl sh_216 (by decide) (by decide) (by decide) rfl ?_
  refine L_s (pc' := 16) rfl rfl ?_
  refine L_s (pc' := 17) rfl rfl ?_
  refine L_wIk (pc' := 18) (j := 17) rfl sh_216 (by decide) (by decide) (by decide) rfl ?_
  refine L_let fun g1 _ => ?_
  refine L_s (pc' := 19) rfl rfl ?_
  exact L_ret rfl ret_i rfl
def m_steps_k1_316 (v5 : Int32) (v6 : Int32) (g : Sg) : Option (Sg) :=
  (if v5 < 0 then
    (some g)
  else
    Option.bind (m_sends_k1 v5 v6 g) (fun g1 => (some g1)))
def m_steps_k1_279 (v3 : Int32) (v5 : Int32) (v6 : Int32) (g : Sg) : Option (Sg) :=
  (if inb v3 20360 = true then (if ¬ (g 216 (Int32.toNatClampNeg v3)) = 3 then
    (m_steps_k1_316 v5 v6 g)
  else
    (if inb ((v3 + 3) + 1) 20360 = true then (if inb (v3 + 1) 20360 = true then (if inb ((v3 + 3) + 1) 20360 = true then lt1 (up2 g 216 (Int32.toNatClampNeg ((v3 + 3) + 1)) ((g 216 (Int32.toNatClampNeg ((v3 + 3) + 1))) + ((v6 * (g 216 (Int32.toNatClampNeg (v3 + 1)))) / 100))) (fun g1 => (m_steps_k1_316 v5 v6 g1)) else none) else none) else none)) else none)
def m_steps_k1_227 (v3 : Int32) (v4 : Int32) (v5 : Int32) (s0 : Int32) (g : Sg) : Option (Sg) :=
  (if inb v3 20360 = true then (if ¬ (g 216 (Int32.toNatClampNeg v3)) = 2 then
    Option.bind (m_adds_k1_4 (v4 - s0) g) (fun (x1, g2) => (m_steps_k1_279 v3 v5 s0 g2))
  else
    Option.bind (m_adds_k1_2 (-s0) g) (fun (x3, g4) => (if inb ((v3 + 3) + 1) 20360 = true then lt1 (up2 g4 216 (Int32.toNatClampNeg ((v3 + 3) + 1)) (v4 - s0)) (fun g5 => (m_steps_k1_279 v3 v5 s0 g5)) else none))) else none)
def m_steps_k1_184 (v3 : Int32) (v4 : Int32) (g : Sg) : Option (Sg) :=
  (if inb (v3 + 2) 20360 = true then lt1 ((g 216 (Int32.toNatClampNeg (v3 + 2))) : Int32) (fun x1 => (if 0 ≤ x1 then
    Option.bind (m_channelOf_k5 x1 g) (fun x2 => (if x2 ≤ v4 then
      Option.bind (m_channelOf_k5 x1 g) (fun x3 => (m_steps_k1_227 v3 v4 x1 x3 g))
    else
      (m_steps_k1_227 v3 v4 x1 v4 g)))
  else
    (m_steps_k1_227 v3 v4 x1 0 g))) else none)
def m_steps_k1_159 (v3 : Int32) (v4 : Int32) (s0 : Int32) (g : Sg) : Option (Sg) :=
  Option.bind (m_adds_k1_4 s0 g) (fun (x1, g2) => Option.bind (m_adds_k1_2 (-x1) g2) (fun (x3, g4) => lt1 ((v4 - s0) : Int32) (fun x5 => (m_steps_k1_184 v3 x5 g4))))
def m_steps_k1_65 (v3 : Int32) (v4 : Int32) (g : Sg) : Option (Sg) :=
  (if inb v3 20360 = true then (if ¬ (g 216 (Int32.toNatClampNeg v3)) = 4 then
    (if inb v3 20360 = true then (if ¬ (g 216 (Int32.toNatClampNeg v3)) = 2 then
      (m_steps_k1_184 v3 v4 g)
    else
      Option.bind (m_adds_k1_2 v4 g) (fun (x1, g2) => (if inb ((v3 + 3) + 1) 20360 = true then lt1 ((v4 + (g2 216 (Int32.toNatClampNeg ((v3 + 3) + 1)))) : Int32) (fun x3 => (if inb (v3 + 1) 20360 = true then (if x3 ≤ (g2 216 (Int32.toNatClampNeg (v3 + 1))) then
        (m_steps_k1_159 v3 x3 0 g2)
      else
        (if inb (v3 + 1) 20360 = true then (m_steps_k1_159 v3 x3 (x3 - (g2 216 (Int32.toNatClampNeg (v3 + 1)))) g2) else none)) else none)) else none))) else none)
  else
    (if inb ((v3 + 3) + 1) 20360 = true then Option.bind (m_adds_k1_1 v4 g) (fun (x4, g5) => (if inb ((v3 + 3) + 1) 20360 = true then lt1 (up2 g5 216 (Int32.toNatClampNeg ((v3 + 3) + 1)) ((g 216 (Int32.toNatClampNeg ((v3 + 3) + 1))) + x4)) (fun g6 => (some g6)) else none)) else none)) else none)
def m_steps_k1 (F : Nat) (v2 : Int32) (g : Sg) : Option (Sg) :=
  lt1 ((140 + (5 * v2)) : Int32) (fun x1 => Option.bind (m_comes_k1 F v2 g) (fun (x2, g3) => (if inb x1 20360 = true then (if ¬ (g3 216 (Int32.toNatClampNeg x1)) = 0 then
    (m_steps_k1_65 x1 x2 g3)
  else
    (if inb (x1 + 1) 20360 = true then Option.bind (m_adds_k1_0 (g3 216 (Int32.toNatClampNeg (x1 + 1))) g3) (fun (x4, g5) => lt1 ((x2 + x4) : Int32) (fun x6 => (if inb ((x1 + 3) + 1) 20360 = true then (if inb (x1 + 1) 20360 = true then (if inb ((x1 + 3) + 1) 20360 = true then lt1 (up2 g5 216 (Int32.toNatClampNeg ((x1 + 3) + 1)) ((g5 216 (Int32.toNatClampNeg ((x1 + 3) + 1))) + (g5 216 (Int32.toNatClampNeg (x1 + 1))))) (fun g7 => (m_steps_k1_65 x1 x6 g7)) else none) else none) else none))) else none)) else none)))
set_option maxRecDepth 20000 in
theorem p_m_steps_k1_316 {X : Xx} {d : Nat} (hd : 2 ≤ d) (v5 : Int32) (v6 : Int32) (g : Sg) : Lt X d none k_170 (fun r : Sg => ((none, (SHF, r)) : Out)) 316 [some (.ref 215), some (.int 1), none, none, none, some (.int v5), some (.int v6)] [] g (m_steps_k1_316 v5 v6 g) := by
  unfold m_steps_k1_316
  refine L_s (pc' := 318) rfl rfl ?_
  refine L_br (t := 330) (n := 321) rfl rfl (fun _ => ?_) (fun _ => ?_)
  · exact L_ret rfl rfl rfl
  · refine L_s (pc' := 322) rfl rfl ?_
    refine L_s (pc' := 323) rfl rfl ?_
    refine L_s (pc' := 325) rfl rfl ?_
    refine L_s (pc' := 327) rfl rfl ?_
    refine L_cv (pc' := 330) (as := [.ref 215, .int 1, .int v5, .int v6]) (rest := []) rfl rfl (e_m_sends_k1 (by omega) _ _ _) rfl fun g1 => ?_
    exact L_ret rfl rfl rfl
set_option maxRecDepth 20000 in
theorem p_m_steps_k1_279 {X : Xx} {d : Nat} (hd : 2 ≤ d) (v3 : Int32) (v5 : Int32) (v6 : Int32) (g : Sg) : Lt X d none k_170 (fun r : Sg => ((none, (SHF, r)) : Out)) 279 [some (.ref 215), some (.int 1), none, some (.int v3), none, some (.int v5), some (.int v6)] [] g (m_steps_k1_279 v3 v5 v6 g) := by
  unfold m_steps_k1_279
  refine L_s (pc' := 280) rfl rfl ?_
  refine L_gf (pc' := 283) rfl fr_215_0 rfl ?_
  refine L_s (pc' := 284) rfl rfl ?_
  refine L_rI (pc' := 285) rfl sh_216 (by decide) rfl ?_
  refine L_ic (pc' := 286) rfl q1_3 rfl ?_
  refine L_br (t := 316) (n := 289) rfl rfl (fun _ => ?_) (fun _ => ?_)
  · refine L_wk (L' := [some (.ref 215), some (.int 1), none, none, none, some (.int v5), some (.int v6)]) (wk_s (wk_s (wk_s (wk_n (wk_s (wk_s (wk_s wk_nil))))))) ?_
    exact p_m_steps_k1_316 hd _ _ _
  · refine L_s (pc' := 290) rfl rfl ?_
    refine L_gf (pc' := 293) rfl fr_215_0 rfl ?_
    refine L_s (pc' := 294) rfl rfl ?_
    refine L_ic (pc' := 295) rfl q1_3 rfl ?_
    refine L_s (pc' := 296) rfl rfl ?_
    refine L_s (pc' := 297) rfl rfl ?_
    refine L_s (pc' := 298) rfl rfl ?_
    refine L_s (pc' := 299) rfl rfl ?_
    refine L_rI (pc' := 300) rfl sh_216 (by decide) rfl ?_
    refine L_s (pc' := 302) rfl rfl ?_
    refine L_s (pc' := 303) rfl rfl ?_
    refine L_gf (pc' := 306) rfl fr_215_0 rfl ?_
    refine L_s (pc' := 307) rfl rfl ?_
    refine L_ic (pc' := 308) rfl q1_1 rfl ?_
    refine L_s (pc' := 309) rfl rfl ?_
    refine L_rI (pc' := 310) rfl sh_216 (by decide) rfl ?_
    refine L_s (pc' := 311) rfl rfl ?_
    refine L_bi (pc' := 313) rfl q2_100 rfl ?_
    refine L_dvk (pc' := 314) rfl (by decide) rfl ?_
    refine L_s (pc' := 315) rfl rfl ?_
    refine L_wI (pc' := 316) rfl sh_216 (by decide) rfl ?_
    refine L_let fun g1 _ => ?_
    refine L_wk (L' := [some (.ref 215), some (.int 1), none, none, none, some (.int v5), some (.int v6)]) (wk_s (wk_s (wk_s (wk_n (wk_s (wk_s (wk_s wk_nil))))))) ?_
    exact p_m_steps_k1_316 hd _ _ _
set_option maxRecDepth 20000 in
theorem p_m_steps_k1_227 {X : Xx} {d : Nat} (hd : 2 ≤ d) (v3 : Int32) (v4 : Int32) (v5 : Int32) (s0 : Int32) (g : Sg) : Lt X d none k_170 (fun r : Sg => ((none, (SHF, r)) : Out)) 227 [some (.ref 215), some (.int 1), none, some (.int v3), some (.int v4), some (.int v5), none] [.int s0] g (m_steps_k1_227 v3 v4 v5 s0 g) := by
  unfold m_steps_k1_227
  refine L_s (pc' := 229) (L' := [some (.ref 215), some (.int 1), none, some (.int v3), some (.int v4), some (.int v5), some (.int s0)]) rfl rfl ?_
  refine L_s (pc' := 230) rfl rfl ?_
  refine L_gf (pc' := 233) rfl fr_215_0 rfl ?_
  refine L_s (pc' := 234) rfl rfl ?_
  refine L_rI (pc' := 235) rfl sh_216 (by decide) rfl ?_
  refine L_ic (pc' := 236) rfl q1_2 rfl ?_
  refine L_br (t := 267) (n := 239) rfl rfl (fun _ => ?_) (fun _ => ?_)
  · refine L_s (pc' := 268) rfl rfl ?_
    refine L_s (pc' := 269) rfl rfl ?_
    refine L_ic (pc' := 270) rfl q1_4 rfl ?_
    refine L_s (pc' := 272) rfl rfl ?_
    refine L_s (pc' := 274) rfl rfl ?_
    refine L_s (pc' := 275) rfl rfl ?_
    refine L_cig (pc' := 278) (as := [.ref 215, .int 1, .int 4, .int (v4 - s0)]) (rest := []) rfl rfl (e_m_adds_k1_4 (by omega) _ _) rfl fun x1 g2 => ?_
    refine L_s (pc' := 279) rfl rfl ?_
    refine L_wk (L' := [some (.ref 215), some (.int 1), none, some (.int v3), none, some (.int v5), some (.int s0)]) (wk_s (wk_s (wk_s (wk_s (wk_n (wk_s (wk_s wk_nil))))))) ?_
    exact p_m_steps_k1_279 hd _ _ _ _
  · refine L_s (pc' := 240) rfl rfl ?_
    refine L_s (pc' := 241) rfl rfl ?_
    refine L_ic (pc' := 242) rfl q1_2 rfl ?_
    refine L_s (pc' := 244) rfl rfl ?_
    refine L_s (pc' := 245) rfl rfl ?_
    refine L_cig (pc' := 248) (as := [.ref 215, .int 1, .int 2, .int (-s0)]) (rest := []) rfl rfl (e_m_adds_k1_2 (by omega) _ _) rfl fun x3 g4 => ?_
    refine L_s (pc' := 249) rfl rfl ?_
    refine L_s (pc' := 250) rfl rfl ?_
    refine L_gf (pc' := 253) rfl fr_215_0 rfl ?_
    refine L_s (pc' := 254) rfl rfl ?_
    refine L_ic (pc' := 255) rfl q1_3 rfl ?_
    refine L_s (pc' := 256) rfl rfl ?_
    refine L_s (pc' := 257) rfl rfl ?_
    refine L_s (pc' := 258) rfl rfl ?_
    refine L_s (pc' := 260) rfl rfl ?_
    refine L_s (pc' := 262) rfl rfl ?_
    refine L_s (pc' := 263) rfl rfl ?_
    refine L_wI (pc' := 264) rfl sh_216 (by decide) rfl ?_
    refine L_let fun g5 _ => ?_
    refine L_s (pc' := 279) rfl rfl ?_
    refine L_wk (L' := [some (.ref 215), some (.int 1), none, some (.int v3), none, some (.int v5), some (.int s0)]) (wk_s (wk_s (wk_s (wk_s (wk_n (wk_s (wk_s wk_nil))))))) ?_
    exact p_m_steps_k1_279 hd _ _ _ _
set_option maxRecDepth 20000 in
theorem p_m_steps_k1_184 {X : Xx} {d : Nat} (hd : 2 ≤ d) (v3 : Int32) (v4 : Int32) (g : Sg) : Lt X d none k_170 (fun r : Sg => ((none, (SHF, r)) : Out)) 184 [some (.ref 215), some (.int 1), none, some (.int v3), some (.int v4), none, none] [] g (m_steps_k1_184 v3 v4 g) := by
  unfold m_steps_k1_184
  refine L_s (pc' := 185) rfl rfl ?_
  refine L_gf (pc' := 188) rfl fr_215_0 rfl ?_
  refine L_s (pc' := 189) rfl rfl ?_
  refine L_ic (pc' := 190) rfl q1_2 rfl ?_
  refine L_s (pc' := 191) rfl rfl ?_
  refine L_rI (pc' := 192) rfl sh_216 (by decide) rfl ?_
  refine L_li fun x1 _ => ?_
  refine L_s (pc' := 194) (L' := [some (.ref 215), some (.int 1), none, some (.int v3), some (.int v4), some (.int x1), none]) rfl rfl ?_
  refine L_s (pc' := 196) rfl rfl ?_
  refine L_br (t := 203) (n := 199) rfl rfl (fun _ => ?_) (fun _ => ?_)
  · refine L_s (pc' := 205) rfl rfl ?_
    refine L_s (pc' := 206) rfl rfl ?_
    refine L_s (pc' := 208) rfl rfl ?_
    refine L_ic (pc' := 209) rfl q1_5 rfl ?_
    refine L_ci (pc' := 212) (as := [.ref 215, .int x1, .int 5]) (rest := [.int v4]) rfl rfl (e_m_channelOf_k5 (by omega) _ _) rfl fun x2 => ?_
    refine L_br (t := 220) (n := 215) rfl rfl (fun _ => ?_) (fun _ => ?_)
    · refine L_s (pc' := 221) rfl rfl ?_
      refine L_s (pc' := 223) rfl rfl ?_
      refine L_ic (pc' := 224) rfl q1_5 rfl ?_
      refine L_ci (pc' := 227) (as := [.ref 215, .int x1, .int 5]) (rest := []) rfl rfl (e_m_channelOf_k5 (by omega) _ _) rfl fun x3 => ?_
      exact p_m_steps_k1_227 hd _ _ _ _ _
    · refine L_s (pc' := 217) rfl rfl ?_
      refine L_s (pc' := 227) rfl rfl ?_
      exact p_m_steps_k1_227 hd _ _ _ _ _
  · refine L_ic (pc' := 200) rfl q1_0 rfl ?_
    refine L_s (pc' := 227) rfl rfl ?_
    exact p_m_steps_k1_227 hd _ _ _ _ _
theorem p_m_steps_k1_159 {X : Xx} {d : Nat} (hd : 2 ≤ d) (v3 : Int32) (v4 : Int32) (s0 : Int32) (g : Sg) : Lt X d none k_170 (fun r : Sg => ((none, (SHF, r)) : Out)) 159 [some (.ref 215), some (.int 1), none, some (.int v3), some (.int v4), none, none] [.int s0] g (m_steps_k1_159 v3 v4 s0 g) := by
  unfold m_steps_k1_159
  refine L_s (pc' := 161) (L' := [some (.ref 215), some (.int 1), none, some (.int v3), some (.int v4), some (.int s0), none]) rfl rfl ?_
  refine L_s (pc' := 162) rfl rfl ?_
  refine L_s (pc' := 163) rfl rfl ?_
  refine L_ic (pc' := 164) rfl q1_2 rfl ?_
  refine L_s (pc' := 165) rfl rfl ?_
  refine L_s (pc' := 166) rfl rfl ?_
  refine L_ic (pc' := 167) rfl q1_4 rfl ?_
  refine L_s (pc' := 169) rfl rfl ?_
  refine L_cig (pc' := 172) (as := [.ref 215, .int 1, .int 4, .int s0]) (rest := [.int 2, .int 1, .ref 215]) rfl rfl (e_m_adds_k1_4 (by omega) _ _) rfl fun x1 g2 => ?_
  refine L_s (pc' := 173) rfl rfl ?_
  refine L_cig (pc' := 176) (as := [.ref 215, .int 1, .int 2, .int (-x1)]) (rest := []) rfl rfl (e_m_adds_k1_2 (by omega) _ _) rfl fun x3 g4 => ?_
  refine L_s (pc' := 177) rfl rfl ?_
  refine L_s (pc' := 179) rfl rfl ?_
  refine L_s (pc' := 181) rfl rfl ?_
  refine L_s (pc' := 182) rfl rfl ?_
  refine L_li fun x5 _ => ?_
  refine L_s (pc' := 184) (L' := [some (.ref 215), some (.int 1), none, some (.int v3), some (.int x5), some (.int s0), none]) rfl rfl ?_
  refine L_wk (L' := [some (.ref 215), some (.int 1), none, some (.int v3), some (.int x5), none, none]) (wk_s (wk_s (wk_s (wk_s (wk_s (wk_n (wk_s wk_nil))))))) ?_
  exact p_m_steps_k1_184 hd _ _ _
theorem p_m_steps_k1_65 {X : Xx} {d : Nat} (hd : 2 ≤ d) (v3 : Int32) (v4 : Int32) (g : Sg) : Lt X d none k_170 (fun r : Sg => ((none, (SHF, r)) : Out)) 65 [some (.ref 215), some (.int 1), none, some (.int v3), some (.int v4), none, none] [] g (m_steps_k1_65 v3 v4 g) := by
  unfold m_steps_k1_65
  refine L_s (pc' := 66) rfl rfl ?_
  refine L_gf (pc' := 69) rfl fr_215_0 rfl ?_
  refine L_s (pc' := 70) rfl rfl ?_
  refine L_rI (pc' := 71) rfl sh_216 (by decide) rfl ?_
  refine L_ic (pc' := 72) rfl q1_4 rfl ?_
  refine L_br (t := 97) (n := 75) rfl rfl (fun _ => ?_) (fun _ => ?_)
  · refine L_s (pc' := 98) rfl rfl ?_
    refine L_gf (pc' := 101) rfl fr_215_0 rfl ?_
    refine L_s (pc' := 102) rfl rfl ?_
    refine L_rI (pc' := 103) rfl sh_216 (by decide) rfl ?_
    refine L_ic (pc' := 104) rfl q1_2 rfl ?_
    refine L_br (t := 184) (n := 107) rfl rfl (fun _ => ?_) (fun _ => ?_)
    · exact p_m_steps_k1_184 hd _ _ _
    · refine L_s (pc' := 108) rfl rfl ?_
      refine L_s (pc' := 109) rfl rfl ?_
      refine L_ic (pc' := 110) rfl q1_2 rfl ?_
      refine L_s (pc' := 112) rfl rfl ?_
      refine L_cig (pc' := 115) (as := [.ref 215, .int 1, .int 2, .int v4]) (rest := []) rfl rfl (e_m_adds_k1_2 (by omega) _ _) rfl fun x1 g2 => ?_
      refine L_s (pc' := 116) rfl rfl ?_
      refine L_s (pc' := 118) rfl rfl ?_
      refine L_s (pc' := 119) rfl rfl ?_
      refine L_gf (pc' := 122) rfl fr_215_0 rfl ?_
      refine L_s (pc' := 123) rfl rfl ?_
      refine L_ic (pc' := 124) rfl q1_3 rfl ?_
      refine L_s (pc' := 125) rfl rfl ?_
      refine L_s (pc' := 126) rfl rfl ?_
      refine L_s (pc' := 127) rfl rfl ?_
      refine L_rI (pc' := 128) rfl sh_216 (by decide) rfl ?_
      refine L_s (pc' := 129) rfl rfl ?_
      refine L_li fun x3 _ => ?_
      refine L_s (pc' := 131) (L' := [some (.ref 215), some (.int 1), none, some (.int v3), some (.int x3), none, none]) rfl rfl ?_
      refine L_s (pc' := 133) rfl rfl ?_
      refine L_s (pc' := 134) rfl rfl ?_
      refine L_gf (pc' := 137) rfl fr_215_0 rfl ?_
      refine L_s (pc' := 138) rfl rfl ?_
      refine L_ic (pc' := 139) rfl q1_1 rfl ?_
      refine L_s (pc' := 140) rfl rfl ?_
      refine L_rI (pc' := 141) rfl sh_216 (by decide) rfl ?_
      refine L_br (t := 158) (n := 144) rfl rfl (fun _ => ?_) (fun _ => ?_)
      · refine L_ic (pc' := 159) rfl q1_0 rfl ?_
        exact p_m_steps_k1_159 hd _ _ _ _
      · refine L_s (pc' := 146) rfl rfl ?_
        refine L_s (pc' := 147) rfl rfl ?_
        refine L_gf (pc' := 150) rfl fr_215_0 rfl ?_
        refine L_s (pc' := 151) rfl rfl ?_
        refine L_ic (pc' := 152) rfl q1_1 rfl ?_
        refine L_s (pc' := 153) rfl rfl ?_
        refine L_rI (pc' := 154) rfl sh_216 (by decide) rfl ?_
        refine L_s (pc' := 155) rfl rfl ?_
        refine L_s (pc' := 159) rfl rfl ?_
        exact p_m_steps_k1_159 hd _ _ _ _
  · refine L_s (pc' := 76) rfl rfl ?_
    refine L_gf (pc' := 79) rfl fr_215_0 rfl ?_
    refine L_s (pc' := 80) rfl rfl ?_
    refine L_ic (pc' := 81) rfl q1_3 rfl ?_
    refine L_s (pc' := 82) rfl rfl ?_
    refine L_s (pc' := 83) rfl rfl ?_
    refine L_s (pc' := 84) rfl rfl ?_
    refine L_s (pc' := 85) rfl rfl ?_
    refine L_rI (pc' := 86) rfl sh_216 (by decide) rfl ?_
    refine L_s (pc' := 87) rfl rfl ?_
    refine L_s (pc' := 88) rfl rfl ?_
    refine L_ic (pc' := 89) rfl q1_1 rfl ?_
    refine L_s (pc' := 91) rfl rfl ?_
    refine L_cig (pc' := 94) (as := [.ref 215, .int 1, .int 1, .int v4]) (rest := [.int (g 216 (Int32.toNatClampNeg ((v3 + 3) + 1))), .int ((v3 + 3) + 1), .ref 216]) rfl rfl (e_m_adds_k1_1 (by omega) _ _) rfl fun x4 g5 => ?_
    refine L_s (pc' := 95) rfl rfl ?_
    refine L_wI (pc' := 96) rfl sh_216 (by decide) rfl ?_
    refine L_let fun g6 _ => ?_
    exact L_ret rfl rfl rfl
theorem e_m_steps_k1 {X : Xx} {d : Nat} (hd : 3 ≤ d) (F : Nat) (v2 : Int32) (g : Sg) : ∀ r, m_steps_k1 F v2 g = some r → EvM zft mtl X d 170 [.ref 215, .int 1, .int v2] (SHF, g) ((fun r : Sg => ((none, (SHF, r)) : Out)) r) := by
  obtain ⟨d, rfl⟩ : ∃ d0, d = d0 + 1 := ⟨d - 1, by omega⟩
  have hd : 2 ≤ d := by omega
  refine E_in (f := (fun r : Sg => ((none, (SHF, r)) : Out))) rfl (Nat.le_of_ble_eq_true rfl) ?_
  unfold m_steps_k1
  change Lt X d none k_170 _ 0 [some (.ref 215), some (.int 1), some (.int v2), none, none, none, none] [] g _
  refine L_si (pc' := 3) rfl q3_140 rfl ?_
  refine L_ic (pc' := 4) rfl q1_5 rfl ?_
  refine L_s (pc' := 5) rfl rfl ?_
  refine L_s (pc' := 6) rfl rfl ?_
  refine L_s (pc' := 7) rfl rfl ?_
  refine L_li fun x1 _ => ?_
  refine L_s (pc' := 8) (L' := [some (.ref 215), some (.int 1), some (.int v2), some (.int x1), none, none, none]) rfl rfl ?_
  refine L_s (pc' := 9) rfl rfl ?_
  refine L_s (pc' := 10) rfl rfl ?_
  refine L_s (pc' := 11) rfl rfl ?_
  refine L_cig (pc' := 14) (as := [.ref 215, .int 1, .int v2]) (rest := []) rfl rfl (e_m_comes_k1 (by omega) F _ _) rfl fun x2 g3 => ?_
  refine L_s (pc' := 16) (L' := [some (.ref 215), some (.int 1), some (.int v2), some (.int x1), some (.int x2), none, none]) rfl rfl ?_
  refine L_s (pc' := 17) rfl rfl ?_
  refine L_gf (pc' := 20) rfl fr_215_0 rfl ?_
  refine L_s (pc' := 21) rfl rfl ?_
  refine L_rI (pc' := 22) rfl sh_216 (by decide) rfl ?_
  refine L_br (t := 65) (n := 25) rfl rfl (fun _ => ?_) (fun _ => ?_)
  · refine L_wk (L' := [some (.ref 215), some (.int 1), none, some (.int x1), some (.int x2), none, none]) (wk_s (wk_s (wk_n (wk_s (wk_s (wk_s (wk_s wk_nil))))))) ?_
    exact p_m_steps_k1_65 hd _ _ _
  · refine L_s (pc' := 27) rfl rfl ?_
    refine L_s (pc' := 28) rfl rfl ?_
    refine L_s (pc' := 29) rfl rfl ?_
    refine L_ic (pc' := 30) rfl q1_0 rfl ?_
    refine L_s (pc' := 31) rfl rfl ?_
    refine L_gf (pc' := 34) rfl fr_215_0 rfl ?_
    refine L_s (pc' := 35) rfl rfl ?_
    refine L_ic (pc' := 36) rfl q1_1 rfl ?_
    refine L_s (pc' := 37) rfl rfl ?_
    refine L_rI (pc' := 38) rfl sh_216 (by decide) rfl ?_
    refine L_cig (pc' := 41) (as := [.ref 215, .int 1, .int 0, .int (g3 216 (Int32.toNatClampNeg (x1 + 1)))]) (rest := [.int x2]) rfl rfl (e_m_adds_k1_0 (by omega) _ _) rfl fun x4 g5 => ?_
    refine L_s (pc' := 42) rfl rfl ?_
    refine L_li fun x6 _ => ?_
    refine L_s (pc' := 44) (L' := [some (.ref 215), some (.int 1), some (.int v2), some (.int x1), some (.int x6), none, none]) rfl rfl ?_
    refine L_s (pc' := 45) rfl rfl ?_
    refine L_gf (pc' := 48) rfl fr_215_0 rfl ?_
    refine L_s (pc' := 49) rfl rfl ?_
    refine L_ic (pc' := 50) rfl q1_3 rfl ?_
    refine L_s (pc' := 51) rfl rfl ?_
    refine L_s (pc' := 52) rfl rfl ?_
    refine L_s (pc' := 53) rfl rfl ?_
    refine L_s (pc' := 54) rfl rfl ?_
    refine L_rI (pc' := 55) rfl sh_216 (by decide) rfl ?_
    refine L_s (pc' := 56) rfl rfl ?_
    refine L_gf (pc' := 59) rfl fr_215_0 rfl ?_
    refine L_s (pc' := 60) rfl rfl ?_
    refine L_ic (pc' := 61) rfl q1_1 rfl ?_
    refine L_s (pc' := 62) rfl rfl ?_
    refine L_rI (pc' := 63) rfl sh_216 (by decide) rfl ?_
    refine L_s (pc' := 64) rfl rfl ?_
    refine L_wI (pc' := 65) rfl sh_216 (by decide) rfl ?_
    refine L_let fun g7 _ => ?_
    refine L_wk (L' := [some (.ref 215), some (.int 1), none, some (.int x1), some (.int x6), none, none]) (wk_s (wk_s (wk_n (wk_s (wk_s (wk_s (wk_s wk_nil))))))) ?_
    exact p_m_steps_k1_65 hd _ _ _
def m_adds_k0_3 (v3 : Int32) (g : Sg) : Option (Int32 × Sg) :=
  lt1 (up2 g 216 13 ((g 216 13) + v3)) (fun g1 => (some (v3, g1)))
theorem e_m_adds_k0_3 {X : Xx} {d : Nat} (hd : 1 ≤ d) (v3 : Int32) (g : Sg) : ∀ r, m_adds_k0_3 v3 g = some r → EvM zft mtl X d 167 [.ref 215, .int 0, .int 3, .int v3] (SHF, g) ((fun r : Int32 × Sg => ((some (.int r.1), (SHF, r.2)) : Out)) r) := by
  obtain ⟨d, rfl⟩ : ∃ d0, d = d0 + 1 := ⟨d - 1, by omega⟩
  have hd : 0 ≤ d := by omega
  refine E_in (f := (fun r : Int32 × Sg => ((some (.int r.1), (SHF, r.2)) : Out))) rfl (Nat.le_of_ble_eq_true rfl) ?_
  unfold m_adds_k0_3
  change Lt X d (some .int) k_167 _ 0 [some (.ref 215), some (.int 0), some (.int 3), some (.int v3)] [] g _
  refine L_s (pc' := 1) rfl rfl ?_
  refine L_gf (pc' := 4) rfl fr_215_0 rfl ?_
  refine L_bi (pc' := 6) rfl q2_10 rfl ?_
  refine L_bi (pc' := 8) rfl q2_7 rfl ?_
  refine L_s (pc' := 9) rfl rfl ?_
  refine L_s (pc' := 10) rfl rfl ?_
  refine L_e (b := 0) (by decide) ?_
  refine L_s (pc' := 11) rfl rfl ?_
  refine L_e (b := 10) (by decide) ?_
  refine L_s (pc' := 12) rfl rfl ?_
  refine L_s (pc' := 13) rfl rfl ?_
  refine L_e (b := 13) (by decide) ?_
  refine L_s (pc' := 14) rfl rfl ?_
  refine L_rIk (pc' := 15) (j := 13) rfl sh_216 (by decide) (by decide) (by decide) rfl ?_
  refine L_s (pc' := 16) rfl rfl ?_
  refine L_s (pc' := 17) rfl rfl ?_
  refine L_wIk (pc' := 18) (j := 13) rfl sh_216 (by decide) (by decide) (by decide) rfl ?_
  refine L_let fun g1 _ => ?_
  refine L_s (pc' := 19) rfl rfl ?_
  exact L_ret rfl ret_i rfl
def m_comes_k0_5 : Nat → Int32 → Int32 → Int32 → Sg → Option (Int32 × Sg)
  | 0, _, _, _, _ => none
  | n + 1, v2, v3, v4, g =>
    (if (g 216 1) ≤ v4 then
      Option.bind (m_adds_k0_3 (-v3) g) (fun (x1, g2) => (some (v3, g2)))
    else
      Option.bind (m_channelOf_k1 v4 g) (fun x3 => (if x3 = v2 then
        Option.bind (m_wayAt_k0 v4 (g 216 3) g) (fun x4 => (if inb x4 20360 = true then lt1 ((v3 + (g 216 (Int32.toNatClampNeg x4))) : Int32) (fun x5 => (if inb x4 20360 = true then lt1 (up2 g 216 (Int32.toNatClampNeg x4) 0) (fun g6 => (m_comes_k0_5 n v2 x5 (v4 + 1) g6)) else none)) else none))
      else
        (m_comes_k0_5 n v2 v3 (v4 + 1) g))))
def m_comes_k0 (F : Nat) (v2 : Int32) (g : Sg) : Option (Int32 × Sg) :=
  (m_comes_k0_5 F v2 0 0 g)
theorem p_m_comes_k0_5 {X : Xx} {d : Nat} (hd : 1 ≤ d) : ∀ (n : Nat) (v2 : Int32) (v3 : Int32) (v4 : Int32) (g : Sg), Lt X d (some .int) k_168 (fun r : Int32 × Sg => ((some (.int r.1), (SHF, r.2)) : Out)) 5 [some (.ref 215), some (.int 0), some (.int v2), some (.int v3), some (.int v4), none] [] g (m_comes_k0_5 n v2 v3 v4 g) := by
  intro n
  induction n with
  | zero => intros; exact L_none
  | succ n ih =>
    intro v2 v3 v4 g
    show Lt X d (some .int) k_168 (fun r : Int32 × Sg => ((some (.int r.1), (SHF, r.2)) : Out)) 5 [some (.ref 215), some (.int 0), some (.int v2), some (.int v3), some (.int v4), none] [] g (
      (if (g 216 1) ≤ v4 then
        Option.bind (m_adds_k0_3 (-v3) g) (fun (x1, g2) => (some (v3, g2)))
      else
        Option.bind (m_channelOf_k1 v4 g) (fun x3 => (if x3 = v2 then
          Option.bind (m_wayAt_k0 v4 (g 216 3) g) (fun x4 => (if inb x4 20360 = true then lt1 ((v3 + (g 216 (Int32.toNatClampNeg x4))) : Int32) (fun x5 => (if inb x4 20360 = true then lt1 (up2 g 216 (Int32.toNatClampNeg x4) 0) (fun g6 => (m_comes_k0_5 n v2 x5 (v4 + 1) g6)) else none)) else none))
        else
          (m_comes_k0_5 n v2 v3 (v4 + 1) g)))))
    refine L_s (pc' := 7) rfl rfl ?_
    refine L_s (pc' := 8) rfl rfl ?_
    refine L_gf (pc' := 11) rfl fr_215_0 rfl ?_
    refine L_ic (pc' := 12) rfl q1_1 rfl ?_
    refine L_rIk (pc' := 13) (j := 1) rfl sh_216 (by decide) (by decide) (by decide) rfl ?_
    refine L_br (t := 69) (n := 16) rfl rfl (fun _ => ?_) (fun _ => ?_)
    · refine L_s (pc' := 70) rfl rfl ?_
      refine L_s (pc' := 71) rfl rfl ?_
      refine L_ic (pc' := 72) rfl q1_3 rfl ?_
      refine L_s (pc' := 73) rfl rfl ?_
      refine L_s (pc' := 74) rfl rfl ?_
      refine L_cig (pc' := 77) (as := [.ref 215, .int 0, .int 3, .int (-v3)]) (rest := []) rfl rfl (e_m_adds_k0_3 (by omega) _ _) rfl fun x1 g2 => ?_
      refine L_s (pc' := 78) rfl rfl ?_
      refine L_s (pc' := 79) rfl rfl ?_
      exact L_ret rfl ret_i rfl
    · refine L_s (pc' := 17) rfl rfl ?_
      refine L_s (pc' := 19) rfl rfl ?_
      refine L_ic (pc' := 20) rfl q1_1 rfl ?_
      refine L_ci (pc' := 23) (as := [.ref 215, .int v4, .int 1]) (rest := []) rfl rfl (e_m_channelOf_k1 (by omega) _ _) rfl fun x3 => ?_
      refine L_s (pc' := 24) rfl rfl ?_
      refine L_br (t := 30) (n := 27) rfl rfl (fun _ => ?_) (fun _ => ?_)
      · refine L_s (pc' := 31) rfl rfl ?_
        refine L_s (pc' := 32) rfl rfl ?_
        refine L_s (pc' := 34) rfl rfl ?_
        refine L_s (pc' := 35) rfl rfl ?_
        refine L_gf (pc' := 38) rfl fr_215_0 rfl ?_
        refine L_ic (pc' := 39) rfl q1_3 rfl ?_
        refine L_rIk (pc' := 40) (j := 3) rfl sh_216 (by decide) (by decide) (by decide) rfl ?_
        refine L_ci (pc' := 43) (as := [.ref 215, .int 0, .int v4, .int (g 216 3)]) (rest := []) rfl rfl (e_m_wayAt_k0 (by omega) _ _ _) rfl fun x4 => ?_
        refine L_s (pc' := 45) (L' := [some (.ref 215), some (.int 0), some (.int v2), some (.int v3), some (.int v4), some (.int x4)]) rfl rfl ?_
        refine L_s (pc' := 46) rfl rfl ?_
        refine L_s (pc' := 47) rfl rfl ?_
        refine L_gf (pc' := 50) rfl fr_215_0 rfl ?_
        refine L_s (pc' := 52) rfl rfl ?_
        refine L_rI (pc' := 53) rfl sh_216 (by decide) rfl ?_
        refine L_s (pc' := 54) rfl rfl ?_
        refine L_li fun x5 _ => ?_
        refine L_s (pc' := 55) (L' := [some (.ref 215), some (.int 0), some (.int v2), some (.int x5), some (.int v4), some (.int x4)]) rfl rfl ?_
        refine L_s (pc' := 56) rfl rfl ?_
        refine L_gf (pc' := 59) rfl fr_215_0 rfl ?_
        refine L_s (pc' := 61) rfl rfl ?_
        refine L_ic (pc' := 62) rfl q1_0 rfl ?_
        refine L_wI (pc' := 63) rfl sh_216 (by decide) rfl ?_
        refine L_let fun g6 _ => ?_
        refine L_ii (pc' := 66) (L' := [some (.ref 215), some (.int 0), some (.int v2), some (.int x5), some (.int (v4 + 1)), some (.int x4)]) rfl rfl q1_1 rfl rfl rfl ?_
        refine L_s (pc' := 5) rfl rfl ?_
        refine L_wk (L' := [some (.ref 215), some (.int 0), some (.int v2), some (.int x5), some (.int (v4 + 1)), none]) (wk_s (wk_s (wk_s (wk_s (wk_s (wk_n wk_nil)))))) ?_
        exact ih _ _ _ _
      · refine L_s (pc' := 63) rfl rfl ?_
        refine L_ii (pc' := 66) (L' := [some (.ref 215), some (.int 0), some (.int v2), some (.int v3), some (.int (v4 + 1)), none]) rfl rfl q1_1 rfl rfl rfl ?_
        refine L_s (pc' := 5) rfl rfl ?_
        exact ih _ _ _ _
theorem e_m_comes_k0 {X : Xx} {d : Nat} (hd : 2 ≤ d) (F : Nat) (v2 : Int32) (g : Sg) : ∀ r, m_comes_k0 F v2 g = some r → EvM zft mtl X d 168 [.ref 215, .int 0, .int v2] (SHF, g) ((fun r : Int32 × Sg => ((some (.int r.1), (SHF, r.2)) : Out)) r) := by
  obtain ⟨d, rfl⟩ : ∃ d0, d = d0 + 1 := ⟨d - 1, by omega⟩
  have hd : 1 ≤ d := by omega
  refine E_in (f := (fun r : Int32 × Sg => ((some (.int r.1), (SHF, r.2)) : Out))) rfl (Nat.le_of_ble_eq_true rfl) ?_
  unfold m_comes_k0
  change Lt X d (some .int) k_168 _ 0 [some (.ref 215), some (.int 0), some (.int v2), none, none, none] [] g _
  refine L_ic (pc' := 1) rfl q1_0 rfl ?_
  refine L_s (pc' := 2) (L' := [some (.ref 215), some (.int 0), some (.int v2), some (.int 0), none, none]) rfl rfl ?_
  refine L_ic (pc' := 3) rfl q1_0 rfl ?_
  refine L_s (pc' := 5) (L' := [some (.ref 215), some (.int 0), some (.int v2), some (.int 0), some (.int 0), none]) rfl rfl ?_
  exact p_m_comes_k0_5 hd F _ _ _ _
def m_adds_k0_4 (v3 : Int32) (g : Sg) : Option (Int32 × Sg) :=
  lt1 (up2 g 216 14 ((g 216 14) + v3)) (fun g1 => (some (v3, g1)))
theorem e_m_adds_k0_4 {X : Xx} {d : Nat} (hd : 1 ≤ d) (v3 : Int32) (g : Sg) : ∀ r, m_adds_k0_4 v3 g = some r → EvM zft mtl X d 167 [.ref 215, .int 0, .int 4, .int v3] (SHF, g) ((fun r : Int32 × Sg => ((some (.int r.1), (SHF, r.2)) : Out)) r) := by
  obtain ⟨d, rfl⟩ : ∃ d0, d = d0 + 1 := ⟨d - 1, by omega⟩
  have hd : 0 ≤ d := by omega
  refine E_in (f := (fun r : Int32 × Sg => ((some (.int r.1), (SHF, r.2)) : Out))) rfl (Nat.le_of_ble_eq_true rfl) ?_
  unfold m_adds_k0_4
  change Lt X d (some .int) k_167 _ 0 [some (.ref 215), some (.int 0), some (.int 4), some (.int v3)] [] g _
  refine L_s (pc' := 1) rfl rfl ?_
  refine L_gf (pc' := 4) rfl fr_215_0 rfl ?_
  refine L_bi (pc' := 6) rfl q2_10 rfl ?_
  refine L_bi (pc' := 8) rfl q2_7 rfl ?_
  refine L_s (pc' := 9) rfl rfl ?_
  refine L_s (pc' := 10) rfl rfl ?_
  refine L_e (b := 0) (by decide) ?_
  refine L_s (pc' := 11) rfl rfl ?_
  refine L_e (b := 10) (by decide) ?_
  refine L_s (pc' := 12) rfl rfl ?_
  refine L_s (pc' := 13) rfl rfl ?_
  refine L_e (b := 14) (by decide) ?_
  refine L_s (pc' := 14) rfl rfl ?_
  refine L_rIk (pc' := 15) (j := 14) rfl sh_216 (by decide) (by decide) (by decide) rfl ?_
  refine L_s (pc' := 16) rfl rfl ?_
  refine L_s (pc' := 17) rfl rfl ?_
  refine L_wIk (pc' := 18) (j := 14) rfl sh_216 (by decide) (by decide) (by decide) rfl ?_
  refine L_let fun g1 _ => ?_
  refine L_s (pc' := 19) rfl rfl ?_
  exact L_ret rfl ret_i rfl
def m_adds_k0_6 (v3 : Int32) (g : Sg) : Option (Int32 × Sg) :=
  lt1 (up2 g 216 16 ((g 216 16) + v3)) (fun g1 => (some (v3, g1)))
theorem e_m_adds_k0_6 {X : Xx} {d : Nat} (hd : 1 ≤ d) (v3 : Int32) (g : Sg) : ∀ r, m_adds_k0_6 v3 g = some r → EvM zft mtl X d 167 [.ref 215, .int 0, .int 6, .int v3] (SHF, g) ((fun r : Int32 × Sg => ((some (.int r.1), (SHF, r.2)) : Out)) r) := by
  obtain ⟨d, rfl⟩ : ∃ d0, d = d0 + 1 := ⟨d - 1, by omega⟩
  have hd : 0 ≤ d := by omega
  refine E_in (f := (fun r : Int32 × Sg => ((some (.int r.1), (SHF, r.2)) : Out))) rfl (Nat.le_of_ble_eq_true rfl) ?_
  unfold m_adds_k0_6
  change Lt X d (some .int) k_167 _ 0 [some (.ref 215), some (.int 0), some (.int 6), some (.int v3)] [] g _
  refine L_s (pc' := 1) rfl rfl ?_
  refine L_gf (pc' := 4) rfl fr_215_0 rfl ?_
  refine L_bi (pc' := 6) rfl q2_10 rfl ?_
  refine L_bi (pc' := 8) rfl q2_7 rfl ?_
  refine L_s (pc' := 9) rfl rfl ?_
  refine L_s (pc' := 10) rfl rfl ?_
  refine L_e (b := 0) (by decide) ?_
  refine L_s (pc' := 11) rfl rfl ?_
  refine L_e (b := 10) (by decide) ?_
  refine L_s (pc' := 12) rfl rfl ?_
  refine L_s (pc' := 13) rfl rfl ?_
  refine L_e (b := 16) (by decide) ?_
  refine L_s (pc' := 14) rfl rfl ?_
  refine L_rIk (pc' := 15) (j := 16) rfl sh_216 (by decide) (by decide) (by decide) rfl ?_
  refine L_s (pc' := 16) rfl rfl ?_
  refine L_s (pc' := 17) rfl rfl ?_
  refine L_wIk (pc' := 18) (j := 16) rfl sh_216 (by decide) (by decide) (by decide) rfl ?_
  refine L_let fun g1 _ => ?_
  refine L_s (pc' := 19) rfl rfl ?_
  exact L_ret rfl ret_i rfl
def m_sends_k0_36 (v2 : Int32) (v3 : Int32) (s0 : Int32) (s1 : Int32) (s3 : Int32) (s4 : Int32) (s5 : Int32) (g : Sg) : Option (Sg) :=
  Option.bind (m_channelOf s1 s0 g) (fun x1 => Option.bind (m_adds s5 s4 ((s3 * x1) / 1000) g) (fun (x2, g3) => Option.bind (m_channelOf_k4 v2 g3) (fun x4 => Option.bind (m_wayAt_k0 v2 ((g3 216 3) + x4) g3) (fun x5 => (if inb x5 20360 = true then Option.bind (m_adds_k0_3 (v3 - x2) g3) (fun (x6, g7) => (if inb x5 20360 = true then lt1 (up2 g7 216 (Int32.toNatClampNeg x5) ((g3 216 (Int32.toNatClampNeg x5)) + x6)) (fun g8 => (some g8)) else none)) else none)))))
def m_sends_k0 (v2 : Int32) (v3 : Int32) (g : Sg) : Option (Sg) :=
  Option.bind (m_channelOf_k6 v2 g) (fun x1 => (if ¬ x1 = 1 then
    (m_sends_k0_36 v2 v3 3 v2 v3 5 0 g)
  else
    Option.bind (m_adds_k0_6 v3 g) (fun (x2, g3) => (some g3))))
theorem p_m_sends_k0_36 {X : Xx} {d : Nat} (hd : 1 ≤ d) (v2 : Int32) (v3 : Int32) (s0 : Int32) (s1 : Int32) (s3 : Int32) (s4 : Int32) (s5 : Int32) (g : Sg) : Lt X d none k_169 (fun r : Sg => ((none, (SHF, r)) : Out)) 36 [some (.ref 215), some (.int 0), some (.int v2), some (.int v3), none] [.int s0, .int s1, .ref 215, .int s3, .int s4, .int s5, .ref 215] g (m_sends_k0_36 v2 v3 s0 s1 s3 s4 s5 g) := by
  unfold m_sends_k0_36
  refine L_ci (pc' := 39) (as := [.ref 215, .int s1, .int s0]) (rest := [.int s3, .int s4, .int s5, .ref 215]) rfl rfl (e_m_channelOf (by omega) _ _ _) rfl fun x1 => ?_
  refine L_s (pc' := 40) rfl rfl ?_
  refine L_si (pc' := 43) rfl q3_1000 rfl ?_
  refine L_dvk (pc' := 44) rfl (by decide) rfl ?_
  refine L_cig (pc' := 47) (as := [.ref 215, .int s5, .int s4, .int ((s3 * x1) / 1000)]) (rest := []) rfl rfl (e_m_adds (by omega) _ _ _ _) rfl fun x2 g3 => ?_
  refine L_s (pc' := 49) (L' := [some (.ref 215), some (.int 0), some (.int v2), some (.int v3), some (.int x2)]) rfl rfl ?_
  refine L_s (pc' := 50) rfl rfl ?_
  refine L_gf (pc' := 53) rfl fr_215_0 rfl ?_
  refine L_s (pc' := 54) rfl rfl ?_
  refine L_s (pc' := 55) rfl rfl ?_
  refine L_s (pc' := 56) rfl rfl ?_
  refine L_s (pc' := 57) rfl rfl ?_
  refine L_gf (pc' := 60) rfl fr_215_0 rfl ?_
  refine L_ic (pc' := 61) rfl q1_3 rfl ?_
  refine L_rIk (pc' := 62) (j := 3) rfl sh_216 (by decide) (by decide) (by decide) rfl ?_
  refine L_s (pc' := 63) rfl rfl ?_
  refine L_s (pc' := 64) rfl rfl ?_
  refine L_ic (pc' := 65) rfl q1_4 rfl ?_
  refine L_ci (pc' := 68) (as := [.ref 215, .int v2, .int 4]) (rest := [.int (g3 216 3), .int v2, .int 0, .ref 215, .ref 216]) rfl rfl (e_m_channelOf_k4 (by omega) _ _) rfl fun x4 => ?_
  refine L_s (pc' := 69) rfl rfl ?_
  refine L_ci (pc' := 72) (as := [.ref 215, .int 0, .int v2, .int ((g3 216 3) + x4)]) (rest := [.ref 216]) rfl rfl (e_m_wayAt_k0 (by omega) _ _ _) rfl fun x5 => ?_
  refine L_s (pc' := 73) rfl rfl ?_
  refine L_rI (pc' := 74) rfl sh_216 (by decide) rfl ?_
  refine L_s (pc' := 75) rfl rfl ?_
  refine L_s (pc' := 76) rfl rfl ?_
  refine L_ic (pc' := 77) rfl q1_3 rfl ?_
  refine L_s (pc' := 78) rfl rfl ?_
  refine L_s (pc' := 80) rfl rfl ?_
  refine L_s (pc' := 81) rfl rfl ?_
  refine L_cig (pc' := 84) (as := [.ref 215, .int 0, .int 3, .int (v3 - x2)]) (rest := [.int (g3 216 (Int32.toNatClampNeg x5)), .int x5, .ref 216]) rfl rfl (e_m_adds_k0_3 (by omega) _ _) rfl fun x6 g7 => ?_
  refine L_s (pc' := 85) rfl rfl ?_
  refine L_wI (pc' := 86) rfl sh_216 (by decide) rfl ?_
  refine L_let fun g8 _ => ?_
  exact L_ret rfl rfl rfl
theorem e_m_sends_k0 {X : Xx} {d : Nat} (hd : 2 ≤ d) (v2 : Int32) (v3 : Int32) (g : Sg) : ∀ r, m_sends_k0 v2 v3 g = some r → EvM zft mtl X d 169 [.ref 215, .int 0, .int v2, .int v3] (SHF, g) ((fun r : Sg => ((none, (SHF, r)) : Out)) r) := by
  obtain ⟨d, rfl⟩ : ∃ d0, d = d0 + 1 := ⟨d - 1, by omega⟩
  have hd : 1 ≤ d := by omega
  refine E_in (f := (fun r : Sg => ((none, (SHF, r)) : Out))) rfl (Nat.le_of_ble_eq_true rfl) ?_
  unfold m_sends_k0
  change Lt X d none k_169 _ 0 [some (.ref 215), some (.int 0), some (.int v2), some (.int v3), none] [] g _
  refine L_s (pc' := 1) rfl rfl ?_
  refine L_s (pc' := 2) rfl rfl ?_
  refine L_bi (pc' := 4) rfl q2_6 rfl ?_
  refine L_ci (pc' := 7) (as := [.ref 215, .int v2, .int 6]) (rest := []) rfl rfl (e_m_channelOf_k6 (by omega) _ _) rfl fun x1 => ?_
  refine L_ic (pc' := 8) rfl q1_1 rfl ?_
  refine L_br (t := 21) (n := 11) rfl rfl (fun _ => ?_) (fun _ => ?_)
  · refine L_s (pc' := 22) rfl rfl ?_
    refine L_s (pc' := 23) rfl rfl ?_
    refine L_ic (pc' := 24) rfl q1_5 rfl ?_
    refine L_s (pc' := 25) rfl rfl ?_
    refine L_s (pc' := 26) rfl rfl ?_
    refine L_s (pc' := 27) rfl rfl ?_
    refine L_s (pc' := 28) rfl rfl ?_
    refine L_bf (c := ¬ (0 : Int32) = 0) (t := 35) (n := 31) rfl rfl (by decide) ?_
    refine L_ic (pc' := 32) rfl q1_3 rfl ?_
    refine L_s (pc' := 36) rfl rfl ?_
    exact p_m_sends_k0_36 hd _ _ _ _ _ _ _ _
  · refine L_s (pc' := 12) rfl rfl ?_
    refine L_s (pc' := 13) rfl rfl ?_
    refine L_bi (pc' := 15) rfl q2_6 rfl ?_
    refine L_s (pc' := 16) rfl rfl ?_
    refine L_cig (pc' := 19) (as := [.ref 215, .int 0, .int 6, .int v3]) (rest := []) rfl rfl (e_m_adds_k0_6 (by omega) _ _) rfl fun x2 g3 => ?_
    refine L_s (pc' := 20) rfl rfl ?_
    exact L_ret rfl rfl rfl
def m_adds_k0_2 (v3 : Int32) (g : Sg) : Option (Int32 × Sg) :=
  lt1 (up2 g 216 12 ((g 216 12) + v3)) (fun g1 => (some (v3, g1)))
theorem e_m_adds_k0_2 {X : Xx} {d : Nat} (hd : 1 ≤ d) (v3 : Int32) (g : Sg) : ∀ r, m_adds_k0_2 v3 g = some r → EvM zft mtl X d 167 [.ref 215, .int 0, .int 2, .int v3] (SHF, g) ((fun r : Int32 × Sg => ((some (.int r.1), (SHF, r.2)) : Out)) r) := by
  obtain ⟨d, rfl⟩ : ∃ d0, d = d0 + 1 := ⟨d - 1, by omega⟩
  have hd : 0 ≤ d := by omega
  refine E_in (f := (fun r : Int32 × Sg => ((some (.int r.1), (SHF, r.2)) : Out))) rfl (Nat.le_of_ble_eq_true rfl) ?_
  unfold m_adds_k0_2
  change Lt X d (some .int) k_167 _ 0 [some (.ref 215), some (.int 0), some (.int 2), some (.int v3)] [] g _
  refine L_s (pc' := 1) rfl rfl ?_
  refine L_gf (pc' := 4) rfl fr_215_0 rfl ?_
  refine L_bi (pc' := 6) rfl q2_10 rfl ?_
  refine L_bi (pc' := 8) rfl q2_7 rfl ?_
  refine L_s (pc' := 9) rfl rfl ?_
  refine L_s (pc' := 10) rfl rfl ?_
  refine L_e (b := 0) (by decide) ?_
  refine L_s (pc' := 11) rfl rfl ?_
  refine L_e (b := 10) (by decide) ?_
  refine L_s (pc' := 12) rfl rfl ?_
  refine L_s (pc' := 13) rfl rfl ?_
  refine L_e (b := 12) (by decide) ?_
  refine L_s (pc' := 14) rfl rfl ?_
  refine L_rIk (pc' := 15) (j := 12) rfl sh_216 (by decide) (by decide) (by decide) rfl ?_
  refine L_s (pc' := 16) rfl rfl ?_
  refine L_s (pc' := 17) rfl rfl ?_
  refine L_wIk (pc' := 18) (j := 12) rfl sh_216 (by decide) (by decide) (by decide) rfl ?_
  refine L_let fun g1 _ => ?_
  refine L_s (pc' := 19) rfl rfl ?_
  exact L_ret rfl ret_i rfl
def m_adds_k0_1 (v3 : Int32) (g : Sg) : Option (Int32 × Sg) :=
  lt1 (up2 g 216 11 ((g 216 11) + v3)) (fun g1 => (some (v3, g1)))
theorem e_m_adds_k0_1 {X : Xx} {d : Nat} (hd : 1 ≤ d) (v3 : Int32) (g : Sg) : ∀ r, m_adds_k0_1 v3 g = some r → EvM zft mtl X d 167 [.ref 215, .int 0, .int 1, .int v3] (SHF, g) ((fun r : Int32 × Sg => ((some (.int r.1), (SHF, r.2)) : Out)) r) := by
  obtain ⟨d, rfl⟩ : ∃ d0, d = d0 + 1 := ⟨d - 1, by omega⟩
  have hd : 0 ≤ d := by omega
  refine E_in (f := (fun r : Int32 × Sg => ((some (.int r.1), (SHF, r.2)) : Out))) rfl (Nat.le_of_ble_eq_true rfl) ?_
  unfold m_adds_k0_1
  change Lt X d (some .int) k_167 _ 0 [some (.ref 215), some (.int 0), some (.int 1), some (.int v3)] [] g _
  refine L_s (pc' := 1) rfl rfl ?_
  refine L_gf (pc' := 4) rfl fr_215_0 rfl ?_
  refine L_bi (pc' := 6) rfl q2_10 rfl ?_
  refine L_bi (pc' := 8) rfl q2_7 rfl ?_
  refine L_s (pc' := 9) rfl rfl ?_
  refine L_s (pc' := 10) rfl rfl ?_
  refine L_e (b := 0) (by decide) ?_
  refine L_s (pc' := 11) rfl rfl ?_
  refine L_e (b := 10) (by decide) ?_
  refine L_s (pc' := 12) rfl rfl ?_
  refine L_s (pc' := 13) rfl rfl ?_
  refine L_e (b := 11) (by decide) ?_
  refine L_s (pc' := 14) rfl rfl ?_
  refine L_rIk (pc' := 15) (j := 11) rfl sh_216 (by decide) (by decide) (by decide) rfl ?_
  refine L_s (pc' := 16) rfl rfl ?_
  refine L_s (pc' := 17) rfl rfl ?_
  refine L_wIk (pc' := 18) (j := 11) rfl sh_216 (by decide) (by decide) (by decide) rfl ?_
  refine L_let fun g1 _ => ?_
  refine L_s (pc' := 19) rfl rfl ?_
  exact L_ret rfl ret_i rfl
def m_adds_k0_0 (v3 : Int32) (g : Sg) : Option (Int32 × Sg) :=
  lt1 (up2 g 216 10 ((g 216 10) + v3)) (fun g1 => (some (v3, g1)))
theorem e_m_adds_k0_0 {X : Xx} {d : Nat} (hd : 1 ≤ d) (v3 : Int32) (g : Sg) : ∀ r, m_adds_k0_0 v3 g = some r → EvM zft mtl X d 167 [.ref 215, .int 0, .int 0, .int v3] (SHF, g) ((fun r : Int32 × Sg => ((some (.int r.1), (SHF, r.2)) : Out)) r) := by
  obtain ⟨d, rfl⟩ : ∃ d0, d = d0 + 1 := ⟨d - 1, by omega⟩
  have hd : 0 ≤ d := by omega
  refine E_in (f := (fun r : Int32 × Sg => ((some (.int r.1), (SHF, r.2)) : Out))) rfl (Nat.le_of_ble_eq_true rfl) ?_
  unfold m_adds_k0_0
  change Lt X d (some .int) k_167 _ 0 [some (.ref 215), some (.int 0), some (.int 0), some (.int v3)] [] g _
  refine L_s (pc' := 1) rfl rfl ?_
  refine L_gf (pc' := 4) rfl fr_215_0 rfl ?_
  refine L_bi (pc' := 6) rfl q2_10 rfl ?_
  refine L_bi (pc' := 8) rfl q2_7 rfl ?_
  refine L_s (pc' := 9) rfl rfl ?_
  refine L_s (pc' := 10) rfl rfl ?_
  refine L_e (b := 0) (by decide) ?_
  refine L_s (pc' := 11) rfl rfl ?_
  refine L_e (b := 10) (by decide) ?_
  refine L_s (pc' := 12) rfl rfl ?_
  refine L_s (pc' := 13) rfl rfl ?_
  refine L_e (b := 10) (by decide) ?_
  refine L_s (pc' := 14) rfl rfl ?_
  refine L_rIk (pc' := 15) (j := 10) rfl sh_216 (by decide) (by decide) (by decide) rfl ?_
  refine L_s (pc' := 16) rfl rfl ?_
  refine L_s (pc' := 17) rfl rfl ?_
  refine L_wIk (pc' := 18) (j := 10) rfl sh_216 (by decide) (by decide) (by decide) rfl ?_
  refine L_let fun g1 _ => ?_
  refine L_s (pc' := 19) rfl rfl ?_
  exact L_ret rfl ret_i rfl
def m_steps_k0_316 (v5 : Int32) (v6 : Int32) (g : Sg) : Option (Sg) :=
  (if v5 < 0 then
    (some g)
  else
    Option.bind (m_sends_k0 v5 v6 g) (fun g1 => (some g1)))
def m_steps_k0_279 (v3 : Int32) (v5 : Int32) (v6 : Int32) (g : Sg) : Option (Sg) :=
  (if inb v3 20360 = true then (if ¬ (g 216 (Int32.toNatClampNeg v3)) = 3 then
    (m_steps_k0_316 v5 v6 g)
  else
    (if inb ((v3 + 3) + 0) 20360 = true then (if inb (v3 + 1) 20360 = true then (if inb ((v3 + 3) + 0) 20360 = true then lt1 (up2 g 216 (Int32.toNatClampNeg ((v3 + 3) + 0)) ((g 216 (Int32.toNatClampNeg ((v3 + 3) + 0))) + ((v6 * (g 216 (Int32.toNatClampNeg (v3 + 1)))) / 100))) (fun g1 => (m_steps_k0_316 v5 v6 g1)) else none) else none) else none)) else none)
def m_steps_k0_227 (v3 : Int32) (v4 : Int32) (v5 : Int32) (s0 : Int32) (g : Sg) : Option (Sg) :=
  (if inb v3 20360 = true then (if ¬ (g 216 (Int32.toNatClampNeg v3)) = 2 then
    Option.bind (m_adds_k0_4 (v4 - s0) g) (fun (x1, g2) => (m_steps_k0_279 v3 v5 s0 g2))
  else
    Option.bind (m_adds_k0_2 (-s0) g) (fun (x3, g4) => (if inb ((v3 + 3) + 0) 20360 = true then lt1 (up2 g4 216 (Int32.toNatClampNeg ((v3 + 3) + 0)) (v4 - s0)) (fun g5 => (m_steps_k0_279 v3 v5 s0 g5)) else none))) else none)
def m_steps_k0_184 (v3 : Int32) (v4 : Int32) (g : Sg) : Option (Sg) :=
  (if inb (v3 + 2) 20360 = true then lt1 ((g 216 (Int32.toNatClampNeg (v3 + 2))) : Int32) (fun x1 => (if 0 ≤ x1 then
    Option.bind (m_channelOf_k5 x1 g) (fun x2 => (if x2 ≤ v4 then
      Option.bind (m_channelOf_k5 x1 g) (fun x3 => (m_steps_k0_227 v3 v4 x1 x3 g))
    else
      (m_steps_k0_227 v3 v4 x1 v4 g)))
  else
    (m_steps_k0_227 v3 v4 x1 0 g))) else none)
def m_steps_k0_159 (v3 : Int32) (v4 : Int32) (s0 : Int32) (g : Sg) : Option (Sg) :=
  Option.bind (m_adds_k0_4 s0 g) (fun (x1, g2) => Option.bind (m_adds_k0_2 (-x1) g2) (fun (x3, g4) => lt1 ((v4 - s0) : Int32) (fun x5 => (m_steps_k0_184 v3 x5 g4))))
def m_steps_k0_65 (v3 : Int32) (v4 : Int32) (g : Sg) : Option (Sg) :=
  (if inb v3 20360 = true then (if ¬ (g 216 (Int32.toNatClampNeg v3)) = 4 then
    (if inb v3 20360 = true then (if ¬ (g 216 (Int32.toNatClampNeg v3)) = 2 then
      (m_steps_k0_184 v3 v4 g)
    else
      Option.bind (m_adds_k0_2 v4 g) (fun (x1, g2) => (if inb ((v3 + 3) + 0) 20360 = true then lt1 ((v4 + (g2 216 (Int32.toNatClampNeg ((v3 + 3) + 0)))) : Int32) (fun x3 => (if inb (v3 + 1) 20360 = true then (if x3 ≤ (g2 216 (Int32.toNatClampNeg (v3 + 1))) then
        (m_steps_k0_159 v3 x3 0 g2)
      else
        (if inb (v3 + 1) 20360 = true then (m_steps_k0_159 v3 x3 (x3 - (g2 216 (Int32.toNatClampNeg (v3 + 1)))) g2) else none)) else none)) else none))) else none)
  else
    (if inb ((v3 + 3) + 0) 20360 = true then Option.bind (m_adds_k0_1 v4 g) (fun (x4, g5) => (if inb ((v3 + 3) + 0) 20360 = true then lt1 (up2 g5 216 (Int32.toNatClampNeg ((v3 + 3) + 0)) ((g 216 (Int32.toNatClampNeg ((v3 + 3) + 0))) + x4)) (fun g6 => (some g6)) else none)) else none)) else none)
def m_steps_k0 (F : Nat) (v2 : Int32) (g : Sg) : Option (Sg) :=
  lt1 ((140 + (5 * v2)) : Int32) (fun x1 => Option.bind (m_comes_k0 F v2 g) (fun (x2, g3) => (if inb x1 20360 = true then (if ¬ (g3 216 (Int32.toNatClampNeg x1)) = 0 then
    (m_steps_k0_65 x1 x2 g3)
  else
    (if inb (x1 + 1) 20360 = true then Option.bind (m_adds_k0_0 (g3 216 (Int32.toNatClampNeg (x1 + 1))) g3) (fun (x4, g5) => lt1 ((x2 + x4) : Int32) (fun x6 => (if inb ((x1 + 3) + 0) 20360 = true then (if inb (x1 + 1) 20360 = true then (if inb ((x1 + 3) + 0) 20360 = true then lt1 (up2 g5 216 (Int32.toNatClampNeg ((x1 + 3) + 0)) ((g5 216 (Int32.toNatClampNeg ((x1 + 3) + 0))) + (g5 216 (Int32.toNatClampNeg (x1 + 1))))) (fun g7 => (m_steps_k0_65 x1 x6 g7)) else none) else none) else none))) else none)) else none)))
set_option maxRecDepth 20000 in
theorem p_m_steps_k0_316 {X : Xx} {d : Nat} (hd : 2 ≤ d) (v5 : Int32) (v6 : Int32) (g : Sg) : Lt X d none k_170 (fun r : Sg => ((none, (SHF, r)) : Out)) 316 [some (.ref 215), some (.int 0), none, none, none, some (.int v5), some (.int v6)] [] g (m_steps_k0_316 v5 v6 g) := by
  unfold m_steps_k0_316
  refine L_s (pc' := 318) rfl rfl ?_
  refine L_br (t := 330) (n := 321) rfl rfl (fun _ => ?_) (fun _ => ?_)
  · exact L_ret rfl rfl rfl
  · refine L_s (pc' := 322) rfl rfl ?_
    refine L_s (pc' := 323) rfl rfl ?_
    refine L_s (pc' := 325) rfl rfl ?_
    refine L_s (pc' := 327) rfl rfl ?_
    refine L_cv (pc' := 330) (as := [.ref 215, .int 0, .int v5, .int v6]) (rest := []) rfl rfl (e_m_sends_k0 (by omega) _ _ _) rfl fun g1 => ?_
    exact L_ret rfl rfl rfl
set_option maxRecDepth 20000 in
theorem p_m_steps_k0_279 {X : Xx} {d : Nat} (hd : 2 ≤ d) (v3 : Int32) (v5 : Int32) (v6 : Int32) (g : Sg) : Lt X d none k_170 (fun r : Sg => ((none, (SHF, r)) : Out)) 279 [some (.ref 215), some (.int 0), none, some (.int v3), none, some (.int v5), some (.int v6)] [] g (m_steps_k0_279 v3 v5 v6 g) := by
  unfold m_steps_k0_279
  refine L_s (pc' := 280) rfl rfl ?_
  refine L_gf (pc' := 283) rfl fr_215_0 rfl ?_
  refine L_s (pc' := 284) rfl rfl ?_
  refine L_rI (pc' := 285) rfl sh_216 (by decide) rfl ?_
  refine L_ic (pc' := 286) rfl q1_3 rfl ?_
  refine L_br (t := 316) (n := 289) rfl rfl (fun _ => ?_) (fun _ => ?_)
  · refine L_wk (L' := [some (.ref 215), some (.int 0), none, none, none, some (.int v5), some (.int v6)]) (wk_s (wk_s (wk_s (wk_n (wk_s (wk_s (wk_s wk_nil))))))) ?_
    exact p_m_steps_k0_316 hd _ _ _
  · refine L_s (pc' := 290) rfl rfl ?_
    refine L_gf (pc' := 293) rfl fr_215_0 rfl ?_
    refine L_s (pc' := 294) rfl rfl ?_
    refine L_ic (pc' := 295) rfl q1_3 rfl ?_
    refine L_s (pc' := 296) rfl rfl ?_
    refine L_s (pc' := 297) rfl rfl ?_
    refine L_s (pc' := 298) rfl rfl ?_
    refine L_s (pc' := 299) rfl rfl ?_
    refine L_rI (pc' := 300) rfl sh_216 (by decide) rfl ?_
    refine L_s (pc' := 302) rfl rfl ?_
    refine L_s (pc' := 303) rfl rfl ?_
    refine L_gf (pc' := 306) rfl fr_215_0 rfl ?_
    refine L_s (pc' := 307) rfl rfl ?_
    refine L_ic (pc' := 308) rfl q1_1 rfl ?_
    refine L_s (pc' := 309) rfl rfl ?_
    refine L_rI (pc' := 310) rfl sh_216 (by decide) rfl ?_
    refine L_s (pc' := 311) rfl rfl ?_
    refine L_bi (pc' := 313) rfl q2_100 rfl ?_
    refine L_dvk (pc' := 314) rfl (by decide) rfl ?_
    refine L_s (pc' := 315) rfl rfl ?_
    refine L_wI (pc' := 316) rfl sh_216 (by decide) rfl ?_
    refine L_let fun g1 _ => ?_
    refine L_wk (L' := [some (.ref 215), some (.int 0), none, none, none, some (.int v5), some (.int v6)]) (wk_s (wk_s (wk_s (wk_n (wk_s (wk_s (wk_s wk_nil))))))) ?_
    exact p_m_steps_k0_316 hd _ _ _
set_option maxRecDepth 20000 in
theorem p_m_steps_k0_227 {X : Xx} {d : Nat} (hd : 2 ≤ d) (v3 : Int32) (v4 : Int32) (v5 : Int32) (s0 : Int32) (g : Sg) : Lt X d none k_170 (fun r : Sg => ((none, (SHF, r)) : Out)) 227 [some (.ref 215), some (.int 0), none, some (.int v3), some (.int v4), some (.int v5), none] [.int s0] g (m_steps_k0_227 v3 v4 v5 s0 g) := by
  unfold m_steps_k0_227
  refine L_s (pc' := 229) (L' := [some (.ref 215), some (.int 0), none, some (.int v3), some (.int v4), some (.int v5), some (.int s0)]) rfl rfl ?_
  refine L_s (pc' := 230) rfl rfl ?_
  refine L_gf (pc' := 233) rfl fr_215_0 rfl ?_
  refine L_s (pc' := 234) rfl rfl ?_
  refine L_rI (pc' := 235) rfl sh_216 (by decide) rfl ?_
  refine L_ic (pc' := 236) rfl q1_2 rfl ?_
  refine L_br (t := 267) (n := 239) rfl rfl (fun _ => ?_) (fun _ => ?_)
  · refine L_s (pc' := 268) rfl rfl ?_
    refine L_s (pc' := 269) rfl rfl ?_
    refine L_ic (pc' := 270) rfl q1_4 rfl ?_
    refine L_s (pc' := 272) rfl rfl ?_
    refine L_s (pc' := 274) rfl rfl ?_
    refine L_s (pc' := 275) rfl rfl ?_
    refine L_cig (pc' := 278) (as := [.ref 215, .int 0, .int 4, .int (v4 - s0)]) (rest := []) rfl rfl (e_m_adds_k0_4 (by omega) _ _) rfl fun x1 g2 => ?_
    refine L_s (pc' := 279) rfl rfl ?_
    refine L_wk (L' := [some (.ref 215), some (.int 0), none, some (.int v3), none, some (.int v5), some (.int s0)]) (wk_s (wk_s (wk_s (wk_s (wk_n (wk_s (wk_s wk_nil))))))) ?_
    exact p_m_steps_k0_279 hd _ _ _ _
  · refine L_s (pc' := 240) rfl rfl ?_
    refine L_s (pc' := 241) rfl rfl ?_
    refine L_ic (pc' := 242) rfl q1_2 rfl ?_
    refine L_s (pc' := 244) rfl rfl ?_
    refine L_s (pc' := 245) rfl rfl ?_
    refine L_cig (pc' := 248) (as := [.ref 215, .int 0, .int 2, .int (-s0)]) (rest := []) rfl rfl (e_m_adds_k0_2 (by omega) _ _) rfl fun x3 g4 => ?_
    refine L_s (pc' := 249) rfl rfl ?_
    refine L_s (pc' := 250) rfl rfl ?_
    refine L_gf (pc' := 253) rfl fr_215_0 rfl ?_
    refine L_s (pc' := 254) rfl rfl ?_
    refine L_ic (pc' := 255) rfl q1_3 rfl ?_
    refine L_s (pc' := 256) rfl rfl ?_
    refine L_s (pc' := 257) rfl rfl ?_
    refine L_s (pc' := 258) rfl rfl ?_
    refine L_s (pc' := 260) rfl rfl ?_
    refine L_s (pc' := 262) rfl rfl ?_
    refine L_s (pc' := 263) rfl rfl ?_
    refine L_wI (pc' := 264) rfl sh_216 (by decide) rfl ?_
    refine L_let fun g5 _ => ?_
    refine L_s (pc' := 279) rfl rfl ?_
    refine L_wk (L' := [some (.ref 215), some (.int 0), none, some (.int v3), none, some (.int v5), some (.int s0)]) (wk_s (wk_s (wk_s (wk_s (wk_n (wk_s (wk_s wk_nil))))))) ?_
    exact p_m_steps_k0_279 hd _ _ _ _
set_option maxRecDepth 20000 in
theorem p_m_steps_k0_184 {X : Xx} {d : Nat} (hd : 2 ≤ d) (v3 : Int32) (v4 : Int32) (g : Sg) : Lt X d none k_170 (fun r : Sg => ((none, (SHF, r)) : Out)) 184 [some (.ref 215), some (.int 0), none, some (.int v3), some (.int v4), none, none] [] g (m_steps_k0_184 v3 v4 g) := by
  unfold m_steps_k0_184
  refine L_s (pc' := 185) rfl rfl ?_
  refine L_gf (pc' := 188) rfl fr_215_0 rfl ?_
  refine L_s (pc' := 189) rfl rfl ?_
  refine L_ic (pc' := 190) rfl q1_2 rfl ?_
  refine L_s (pc' := 191) rfl rfl ?_
  refine L_rI (pc' := 192) rfl sh_216 (by decide) rfl ?_
  refine L_li fun x1 _ => ?_
  refine L_s (pc' := 194) (L' := [some (.ref 215), some (.int 0), none, some (.int v3), some (.int v4), some (.int x1), none]) rfl rfl ?_
  refine L_s (pc' := 196) rfl rfl ?_
  refine L_br (t := 203) (n := 199) rfl rfl (fun _ => ?_) (fun _ => ?_)
  · refine L_s (pc' := 205) rfl rfl ?_
    refine L_s (pc' := 206) rfl rfl ?_
    refine L_s (pc' := 208) rfl rfl ?_
    refine L_ic (pc' := 209) rfl q1_5 rfl ?_
    refine L_ci (pc' := 212) (as := [.ref 215, .int x1, .int 5]) (rest := [.int v4]) rfl rfl (e_m_channelOf_k5 (by omega) _ _) rfl fun x2 => ?_
    refine L_br (t := 220) (n := 215) rfl rfl (fun _ => ?_) (fun _ => ?_)
    · refine L_s (pc' := 221) rfl rfl ?_
      refine L_s (pc' := 223) rfl rfl ?_
      refine L_ic (pc' := 224) rfl q1_5 rfl ?_
      refine L_ci (pc' := 227) (as := [.ref 215, .int x1, .int 5]) (rest := []) rfl rfl (e_m_channelOf_k5 (by omega) _ _) rfl fun x3 => ?_
      exact p_m_steps_k0_227 hd _ _ _ _ _
    · refine L_s (pc' := 217) rfl rfl ?_
      refine L_s (pc' := 227) rfl rfl ?_
      exact p_m_steps_k0_227 hd _ _ _ _ _
  · refine L_ic (pc' := 200) rfl q1_0 rfl ?_
    refine L_s (pc' := 227) rfl rfl ?_
    exact p_m_steps_k0_227 hd _ _ _ _ _
theorem p_m_steps_k0_159 {X : Xx} {d : Nat} (hd : 2 ≤ d) (v3 : Int32) (v4 : Int32) (s0 : Int32) (g : Sg) : Lt X d none k_170 (fun r : Sg => ((none, (SHF, r)) : Out)) 159 [some (.ref 215), some (.int 0), none, some (.int v3), some (.int v4), none, none] [.int s0] g (m_steps_k0_159 v3 v4 s0 g) := by
  unfold m_steps_k0_159
  refine L_s (pc' := 161) (L' := [some (.ref 215), some (.int 0), none, some (.int v3), some (.int v4), some (.int s0), none]) rfl rfl ?_
  refine L_s (pc' := 162) rfl rfl ?_
  refine L_s (pc' := 163) rfl rfl ?_
  refine L_ic (pc' := 164) rfl q1_2 rfl ?_
  refine L_s (pc' := 165) rfl rfl ?_
  refine L_s (pc' := 166) rfl rfl ?_
  refine L_ic (pc' := 167) rfl q1_4 rfl ?_
  refine L_s (pc' := 169) rfl rfl ?_
  refine L_cig (pc' := 172) (as := [.ref 215, .int 0, .int 4, .int s0]) (rest := [.int 2, .int 0, .ref 215]) rfl rfl (e_m_adds_k0_4 (by omega) _ _) rfl fun x1 g2 => ?_
  refine L_s (pc' := 173) rfl rfl ?_
  refine L_cig (pc' := 176) (as := [.ref 215, .int 0, .int 2, .int (-x1)]) (rest := []) rfl rfl (e_m_adds_k0_2 (by omega) _ _) rfl fun x3 g4 => ?_
  refine L_s (pc' := 177) rfl rfl ?_
  refine L_s (pc' := 179) rfl rfl ?_
  refine L_s (pc' := 181) rfl rfl ?_
  refine L_s (pc' := 182) rfl rfl ?_
  refine L_li fun x5 _ => ?_
  refine L_s (pc' := 184) (L' := [some (.ref 215), some (.int 0), none, some (.int v3), some (.int x5), some (.int s0), none]) rfl rfl ?_
  refine L_wk (L' := [some (.ref 215), some (.int 0), none, some (.int v3), some (.int x5), none, none]) (wk_s (wk_s (wk_s (wk_s (wk_s (wk_n (wk_s wk_nil))))))) ?_
  exact p_m_steps_k0_184 hd _ _ _
theorem p_m_steps_k0_65 {X : Xx} {d : Nat} (hd : 2 ≤ d) (v3 : Int32) (v4 : Int32) (g : Sg) : Lt X d none k_170 (fun r : Sg => ((none, (SHF, r)) : Out)) 65 [some (.ref 215), some (.int 0), none, some (.int v3), some (.int v4), none, none] [] g (m_steps_k0_65 v3 v4 g) := by
  unfold m_steps_k0_65
  refine L_s (pc' := 66) rfl rfl ?_
  refine L_gf (pc' := 69) rfl fr_215_0 rfl ?_
  refine L_s (pc' := 70) rfl rfl ?_
  refine L_rI (pc' := 71) rfl sh_216 (by decide) rfl ?_
  refine L_ic (pc' := 72) rfl q1_4 rfl ?_
  refine L_br (t := 97) (n := 75) rfl rfl (fun _ => ?_) (fun _ => ?_)
  · refine L_s (pc' := 98) rfl rfl ?_
    refine L_gf (pc' := 101) rfl fr_215_0 rfl ?_
    refine L_s (pc' := 102) rfl rfl ?_
    refine L_rI (pc' := 103) rfl sh_216 (by decide) rfl ?_
    refine L_ic (pc' := 104) rfl q1_2 rfl ?_
    refine L_br (t := 184) (n := 107) rfl rfl (fun _ => ?_) (fun _ => ?_)
    · exact p_m_steps_k0_184 hd _ _ _
    · refine L_s (pc' := 108) rfl rfl ?_
      refine L_s (pc' := 109) rfl rfl ?_
      refine L_ic (pc' := 110) rfl q1_2 rfl ?_
      refine L_s (pc' := 112) rfl rfl ?_
      refine L_cig (pc' := 115) (as := [.ref 215, .int 0, .int 2, .int v4]) (rest := []) rfl rfl (e_m_adds_k0_2 (by omega) _ _) rfl fun x1 g2 => ?_
      refine L_s (pc' := 116) rfl rfl ?_
      refine L_s (pc' := 118) rfl rfl ?_
      refine L_s (pc' := 119) rfl rfl ?_
      refine L_gf (pc' := 122) rfl fr_215_0 rfl ?_
      refine L_s (pc' := 123) rfl rfl ?_
      refine L_ic (pc' := 124) rfl q1_3 rfl ?_
      refine L_s (pc' := 125) rfl rfl ?_
      refine L_s (pc' := 126) rfl rfl ?_
      refine L_s (pc' := 127) rfl rfl ?_
      refine L_rI (pc' := 128) rfl sh_216 (by decide) rfl ?_
      refine L_s (pc' := 129) rfl rfl ?_
      refine L_li fun x3 _ => ?_
      refine L_s (pc' := 131) (L' := [some (.ref 215), some (.int 0), none, some (.int v3), some (.int x3), none, none]) rfl rfl ?_
      refine L_s (pc' := 133) rfl rfl ?_
      refine L_s (pc' := 134) rfl rfl ?_
      refine L_gf (pc' := 137) rfl fr_215_0 rfl ?_
      refine L_s (pc' := 138) rfl rfl ?_
      refine L_ic (pc' := 139) rfl q1_1 rfl ?_
      refine L_s (pc' := 140) rfl rfl ?_
      refine L_rI (pc' := 141) rfl sh_216 (by decide) rfl ?_
      refine L_br (t := 158) (n := 144) rfl rfl (fun _ => ?_) (fun _ => ?_)
      · refine L_ic (pc' := 159) rfl q1_0 rfl ?_
        exact p_m_steps_k0_159 hd _ _ _ _
      · refine L_s (pc' := 146) rfl rfl ?_
        refine L_s (pc' := 147) rfl rfl ?_
        refine L_gf (pc' := 150) rfl fr_215_0 rfl ?_
        refine L_s (pc' := 151) rfl rfl ?_
        refine L_ic (pc' := 152) rfl q1_1 rfl ?_
        refine L_s (pc' := 153) rfl rfl ?_
        refine L_rI (pc' := 154) rfl sh_216 (by decide) rfl ?_
        refine L_s (pc' := 155) rfl rfl ?_
        refine L_s (pc' := 159) rfl rfl ?_
        exact p_m_steps_k0_159 hd _ _ _ _
  · refine L_s (pc' := 76) rfl rfl ?_
    refine L_gf (pc' := 79) rfl fr_215_0 rfl ?_
    refine L_s (pc' := 80) rfl rfl ?_
    refine L_ic (pc' := 81) rfl q1_3 rfl ?_
    refine L_s (pc' := 82) rfl rfl ?_
    refine L_s (pc' := 83) rfl rfl ?_
    refine L_s (pc' := 84) rfl rfl ?_
    refine L_s (pc' := 85) rfl rfl ?_
    refine L_rI (pc' := 86) rfl sh_216 (by decide) rfl ?_
    refine L_s (pc' := 87) rfl rfl ?_
    refine L_s (pc' := 88) rfl rfl ?_
    refine L_ic (pc' := 89) rfl q1_1 rfl ?_
    refine L_s (pc' := 91) rfl rfl ?_
    refine L_cig (pc' := 94) (as := [.ref 215, .int 0, .int 1, .int v4]) (rest := [.int (g 216 (Int32.toNatClampNeg ((v3 + 3) + 0))), .int ((v3 + 3) + 0), .ref 216]) rfl rfl (e_m_adds_k0_1 (by omega) _ _) rfl fun x4 g5 => ?_
    refine L_s (pc' := 95) rfl rfl ?_
    refine L_wI (pc' := 96) rfl sh_216 (by decide) rfl ?_
    refine L_let fun g6 _ => ?_
    exact L_ret rfl rfl rfl
theorem e_m_steps_k0 {X : Xx} {d : Nat} (hd : 3 ≤ d) (F : Nat) (v2 : Int32) (g : Sg) : ∀ r, m_steps_k0 F v2 g = some r → EvM zft mtl X d 170 [.ref 215, .int 0, .int v2] (SHF, g) ((fun r : Sg => ((none, (SHF, r)) : Out)) r) := by
  obtain ⟨d, rfl⟩ : ∃ d0, d = d0 + 1 := ⟨d - 1, by omega⟩
  have hd : 2 ≤ d := by omega
  refine E_in (f := (fun r : Sg => ((none, (SHF, r)) : Out))) rfl (Nat.le_of_ble_eq_true rfl) ?_
  unfold m_steps_k0
  change Lt X d none k_170 _ 0 [some (.ref 215), some (.int 0), some (.int v2), none, none, none, none] [] g _
  refine L_si (pc' := 3) rfl q3_140 rfl ?_
  refine L_ic (pc' := 4) rfl q1_5 rfl ?_
  refine L_s (pc' := 5) rfl rfl ?_
  refine L_s (pc' := 6) rfl rfl ?_
  refine L_s (pc' := 7) rfl rfl ?_
  refine L_li fun x1 _ => ?_
  refine L_s (pc' := 8) (L' := [some (.ref 215), some (.int 0), some (.int v2), some (.int x1), none, none, none]) rfl rfl ?_
  refine L_s (pc' := 9) rfl rfl ?_
  refine L_s (pc' := 10) rfl rfl ?_
  refine L_s (pc' := 11) rfl rfl ?_
  refine L_cig (pc' := 14) (as := [.ref 215, .int 0, .int v2]) (rest := []) rfl rfl (e_m_comes_k0 (by omega) F _ _) rfl fun x2 g3 => ?_
  refine L_s (pc' := 16) (L' := [some (.ref 215), some (.int 0), some (.int v2), some (.int x1), some (.int x2), none, none]) rfl rfl ?_
  refine L_s (pc' := 17) rfl rfl ?_
  refine L_gf (pc' := 20) rfl fr_215_0 rfl ?_
  refine L_s (pc' := 21) rfl rfl ?_
  refine L_rI (pc' := 22) rfl sh_216 (by decide) rfl ?_
  refine L_br (t := 65) (n := 25) rfl rfl (fun _ => ?_) (fun _ => ?_)
  · refine L_wk (L' := [some (.ref 215), some (.int 0), none, some (.int x1), some (.int x2), none, none]) (wk_s (wk_s (wk_n (wk_s (wk_s (wk_s (wk_s wk_nil))))))) ?_
    exact p_m_steps_k0_65 hd _ _ _
  · refine L_s (pc' := 27) rfl rfl ?_
    refine L_s (pc' := 28) rfl rfl ?_
    refine L_s (pc' := 29) rfl rfl ?_
    refine L_ic (pc' := 30) rfl q1_0 rfl ?_
    refine L_s (pc' := 31) rfl rfl ?_
    refine L_gf (pc' := 34) rfl fr_215_0 rfl ?_
    refine L_s (pc' := 35) rfl rfl ?_
    refine L_ic (pc' := 36) rfl q1_1 rfl ?_
    refine L_s (pc' := 37) rfl rfl ?_
    refine L_rI (pc' := 38) rfl sh_216 (by decide) rfl ?_
    refine L_cig (pc' := 41) (as := [.ref 215, .int 0, .int 0, .int (g3 216 (Int32.toNatClampNeg (x1 + 1)))]) (rest := [.int x2]) rfl rfl (e_m_adds_k0_0 (by omega) _ _) rfl fun x4 g5 => ?_
    refine L_s (pc' := 42) rfl rfl ?_
    refine L_li fun x6 _ => ?_
    refine L_s (pc' := 44) (L' := [some (.ref 215), some (.int 0), some (.int v2), some (.int x1), some (.int x6), none, none]) rfl rfl ?_
    refine L_s (pc' := 45) rfl rfl ?_
    refine L_gf (pc' := 48) rfl fr_215_0 rfl ?_
    refine L_s (pc' := 49) rfl rfl ?_
    refine L_ic (pc' := 50) rfl q1_3 rfl ?_
    refine L_s (pc' := 51) rfl rfl ?_
    refine L_s (pc' := 52) rfl rfl ?_
    refine L_s (pc' := 53) rfl rfl ?_
    refine L_s (pc' := 54) rfl rfl ?_
    refine L_rI (pc' := 55) rfl sh_216 (by decide) rfl ?_
    refine L_s (pc' := 56) rfl rfl ?_
    refine L_gf (pc' := 59) rfl fr_215_0 rfl ?_
    refine L_s (pc' := 60) rfl rfl ?_
    refine L_ic (pc' := 61) rfl q1_1 rfl ?_
    refine L_s (pc' := 62) rfl rfl ?_
    refine L_rI (pc' := 63) rfl sh_216 (by decide) rfl ?_
    refine L_s (pc' := 64) rfl rfl ?_
    refine L_wI (pc' := 65) rfl sh_216 (by decide) rfl ?_
    refine L_let fun g7 _ => ?_
    refine L_wk (L' := [some (.ref 215), some (.int 0), none, some (.int x1), some (.int x6), none, none]) (wk_s (wk_s (wk_n (wk_s (wk_s (wk_s (wk_s wk_nil))))))) ?_
    exact p_m_steps_k0_65 hd _ _ _
def m_today  (g : Sg) : Option (Int32) :=
  (some ((g 216 3) / 96))
theorem e_m_today {X : Xx} {d : Nat} (hd : 1 ≤ d)  (g : Sg) : ∀ r, m_today  g = some r → EvM zft mtl X d 151 [.ref 215] (SHF, g) ((fun r : Int32 => ((some (.int r), (SHF, g)) : Out)) r) := by
  obtain ⟨d, rfl⟩ : ∃ d0, d = d0 + 1 := ⟨d - 1, by omega⟩
  have hd : 0 ≤ d := by omega
  refine E_in (f := (fun r : Int32 => ((some (.int r), (SHF, g)) : Out))) rfl (Nat.le_of_ble_eq_true rfl) ?_
  unfold m_today
  change Lt X d (some .int) k_151 _ 0 [some (.ref 215)] [] g _
  refine L_s (pc' := 1) rfl rfl ?_
  refine L_gf (pc' := 4) rfl fr_215_0 rfl ?_
  refine L_ic (pc' := 5) rfl q1_3 rfl ?_
  refine L_rIk (pc' := 6) (j := 3) rfl sh_216 (by decide) (by decide) (by decide) rfl ?_
  refine L_bi (pc' := 8) rfl q2_96 rfl ?_
  refine L_dvk (pc' := 9) rfl (by decide) rfl ?_
  exact L_ret rfl ret_i rfl
def m_deedOf_k2 (v1 : Int32) (g : Sg) : Option (Int32) :=
  (if inb ((550 + (6 * v1)) + 2) 20360 = true then (some (g 216 (Int32.toNatClampNeg ((550 + (6 * v1)) + 2)))) else none)
theorem e_m_deedOf_k2 {X : Xx} {d : Nat} (hd : 1 ≤ d) (v1 : Int32) (g : Sg) : ∀ r, m_deedOf_k2 v1 g = some r → EvM zft mtl X d 179 [.ref 215, .int v1, .int 2] (SHF, g) ((fun r : Int32 => ((some (.int r), (SHF, g)) : Out)) r) := by
  obtain ⟨d, rfl⟩ : ∃ d0, d = d0 + 1 := ⟨d - 1, by omega⟩
  have hd : 0 ≤ d := by omega
  refine E_in (f := (fun r : Int32 => ((some (.int r), (SHF, g)) : Out))) rfl (Nat.le_of_ble_eq_true rfl) ?_
  unfold m_deedOf_k2
  change Lt X d (some .int) k_179 _ 0 [some (.ref 215), some (.int v1), some (.int 2)] [] g _
  refine L_s (pc' := 1) rfl rfl ?_
  refine L_gf (pc' := 4) rfl fr_215_0 rfl ?_
  refine L_si (pc' := 7) rfl q3_550 rfl ?_
  refine L_bi (pc' := 9) rfl q2_6 rfl ?_
  refine L_s (pc' := 10) rfl rfl ?_
  refine L_s (pc' := 11) rfl rfl ?_
  refine L_s (pc' := 12) rfl rfl ?_
  refine L_s (pc' := 13) rfl rfl ?_
  refine L_s (pc' := 14) rfl rfl ?_
  refine L_rI (pc' := 15) rfl sh_216 (by decide) rfl ?_
  exact L_ret rfl ret_i rfl
def m_deedOf_k0 (v1 : Int32) (g : Sg) : Option (Int32) :=
  (if inb ((550 + (6 * v1)) + 0) 20360 = true then (some (g 216 (Int32.toNatClampNeg ((550 + (6 * v1)) + 0)))) else none)
theorem e_m_deedOf_k0 {X : Xx} {d : Nat} (hd : 1 ≤ d) (v1 : Int32) (g : Sg) : ∀ r, m_deedOf_k0 v1 g = some r → EvM zft mtl X d 179 [.ref 215, .int v1, .int 0] (SHF, g) ((fun r : Int32 => ((some (.int r), (SHF, g)) : Out)) r) := by
  obtain ⟨d, rfl⟩ : ∃ d0, d = d0 + 1 := ⟨d - 1, by omega⟩
  have hd : 0 ≤ d := by omega
  refine E_in (f := (fun r : Int32 => ((some (.int r), (SHF, g)) : Out))) rfl (Nat.le_of_ble_eq_true rfl) ?_
  unfold m_deedOf_k0
  change Lt X d (some .int) k_179 _ 0 [some (.ref 215), some (.int v1), some (.int 0)] [] g _
  refine L_s (pc' := 1) rfl rfl ?_
  refine L_gf (pc' := 4) rfl fr_215_0 rfl ?_
  refine L_si (pc' := 7) rfl q3_550 rfl ?_
  refine L_bi (pc' := 9) rfl q2_6 rfl ?_
  refine L_s (pc' := 10) rfl rfl ?_
  refine L_s (pc' := 11) rfl rfl ?_
  refine L_s (pc' := 12) rfl rfl ?_
  refine L_s (pc' := 13) rfl rfl ?_
  refine L_s (pc' := 14) rfl rfl ?_
  refine L_rI (pc' := 15) rfl sh_216 (by decide) rfl ?_
  exact L_ret rfl ret_i rfl
def m_deedOf_k1 (v1 : Int32) (g : Sg) : Option (Int32) :=
  (if inb ((550 + (6 * v1)) + 1) 20360 = true then (some (g 216 (Int32.toNatClampNeg ((550 + (6 * v1)) + 1)))) else none)
theorem e_m_deedOf_k1 {X : Xx} {d : Nat} (hd : 1 ≤ d) (v1 : Int32) (g : Sg) : ∀ r, m_deedOf_k1 v1 g = some r → EvM zft mtl X d 179 [.ref 215, .int v1, .int 1] (SHF, g) ((fun r : Int32 => ((some (.int r), (SHF, g)) : Out)) r) := by
  obtain ⟨d, rfl⟩ : ∃ d0, d = d0 + 1 := ⟨d - 1, by omega⟩
  have hd : 0 ≤ d := by omega
  refine E_in (f := (fun r : Int32 => ((some (.int r), (SHF, g)) : Out))) rfl (Nat.le_of_ble_eq_true rfl) ?_
  unfold m_deedOf_k1
  change Lt X d (some .int) k_179 _ 0 [some (.ref 215), some (.int v1), some (.int 1)] [] g _
  refine L_s (pc' := 1) rfl rfl ?_
  refine L_gf (pc' := 4) rfl fr_215_0 rfl ?_
  refine L_si (pc' := 7) rfl q3_550 rfl ?_
  refine L_bi (pc' := 9) rfl q2_6 rfl ?_
  refine L_s (pc' := 10) rfl rfl ?_
  refine L_s (pc' := 11) rfl rfl ?_
  refine L_s (pc' := 12) rfl rfl ?_
  refine L_s (pc' := 13) rfl rfl ?_
  refine L_s (pc' := 14) rfl rfl ?_
  refine L_rI (pc' := 15) rfl sh_216 (by decide) rfl ?_
  exact L_ret rfl ret_i rfl
def m_deedOf_k3 (v1 : Int32) (g : Sg) : Option (Int32) :=
  (if inb ((550 + (6 * v1)) + 3) 20360 = true then (some (g 216 (Int32.toNatClampNeg ((550 + (6 * v1)) + 3)))) else none)
theorem e_m_deedOf_k3 {X : Xx} {d : Nat} (hd : 1 ≤ d) (v1 : Int32) (g : Sg) : ∀ r, m_deedOf_k3 v1 g = some r → EvM zft mtl X d 179 [.ref 215, .int v1, .int 3] (SHF, g) ((fun r : Int32 => ((some (.int r), (SHF, g)) : Out)) r) := by
  obtain ⟨d, rfl⟩ : ∃ d0, d = d0 + 1 := ⟨d - 1, by omega⟩
  have hd : 0 ≤ d := by omega
  refine E_in (f := (fun r : Int32 => ((some (.int r), (SHF, g)) : Out))) rfl (Nat.le_of_ble_eq_true rfl) ?_
  unfold m_deedOf_k3
  change Lt X d (some .int) k_179 _ 0 [some (.ref 215), some (.int v1), some (.int 3)] [] g _
  refine L_s (pc' := 1) rfl rfl ?_
  refine L_gf (pc' := 4) rfl fr_215_0 rfl ?_
  refine L_si (pc' := 7) rfl q3_550 rfl ?_
  refine L_bi (pc' := 9) rfl q2_6 rfl ?_
  refine L_s (pc' := 10) rfl rfl ?_
  refine L_s (pc' := 11) rfl rfl ?_
  refine L_s (pc' := 12) rfl rfl ?_
  refine L_s (pc' := 13) rfl rfl ?_
  refine L_s (pc' := 14) rfl rfl ?_
  refine L_rI (pc' := 15) rfl sh_216 (by decide) rfl ?_
  exact L_ret rfl ret_i rfl
def m_deedOf_k4 (v1 : Int32) (g : Sg) : Option (Int32) :=
  (if inb ((550 + (6 * v1)) + 4) 20360 = true then (some (g 216 (Int32.toNatClampNeg ((550 + (6 * v1)) + 4)))) else none)
theorem e_m_deedOf_k4 {X : Xx} {d : Nat} (hd : 1 ≤ d) (v1 : Int32) (g : Sg) : ∀ r, m_deedOf_k4 v1 g = some r → EvM zft mtl X d 179 [.ref 215, .int v1, .int 4] (SHF, g) ((fun r : Int32 => ((some (.int r), (SHF, g)) : Out)) r) := by
  obtain ⟨d, rfl⟩ : ∃ d0, d = d0 + 1 := ⟨d - 1, by omega⟩
  have hd : 0 ≤ d := by omega
  refine E_in (f := (fun r : Int32 => ((some (.int r), (SHF, g)) : Out))) rfl (Nat.le_of_ble_eq_true rfl) ?_
  unfold m_deedOf_k4
  change Lt X d (some .int) k_179 _ 0 [some (.ref 215), some (.int v1), some (.int 4)] [] g _
  refine L_s (pc' := 1) rfl rfl ?_
  refine L_gf (pc' := 4) rfl fr_215_0 rfl ?_
  refine L_si (pc' := 7) rfl q3_550 rfl ?_
  refine L_bi (pc' := 9) rfl q2_6 rfl ?_
  refine L_s (pc' := 10) rfl rfl ?_
  refine L_s (pc' := 11) rfl rfl ?_
  refine L_s (pc' := 12) rfl rfl ?_
  refine L_s (pc' := 13) rfl rfl ?_
  refine L_s (pc' := 14) rfl rfl ?_
  refine L_rI (pc' := 15) rfl sh_216 (by decide) rfl ?_
  exact L_ret rfl ret_i rfl
def m_deedOf_k5 (v1 : Int32) (g : Sg) : Option (Int32) :=
  (if inb ((550 + (6 * v1)) + 5) 20360 = true then (some (g 216 (Int32.toNatClampNeg ((550 + (6 * v1)) + 5)))) else none)
theorem e_m_deedOf_k5 {X : Xx} {d : Nat} (hd : 1 ≤ d) (v1 : Int32) (g : Sg) : ∀ r, m_deedOf_k5 v1 g = some r → EvM zft mtl X d 179 [.ref 215, .int v1, .int 5] (SHF, g) ((fun r : Int32 => ((some (.int r), (SHF, g)) : Out)) r) := by
  obtain ⟨d, rfl⟩ : ∃ d0, d = d0 + 1 := ⟨d - 1, by omega⟩
  have hd : 0 ≤ d := by omega
  refine E_in (f := (fun r : Int32 => ((some (.int r), (SHF, g)) : Out))) rfl (Nat.le_of_ble_eq_true rfl) ?_
  unfold m_deedOf_k5
  change Lt X d (some .int) k_179 _ 0 [some (.ref 215), some (.int v1), some (.int 5)] [] g _
  refine L_s (pc' := 1) rfl rfl ?_
  refine L_gf (pc' := 4) rfl fr_215_0 rfl ?_
  refine L_si (pc' := 7) rfl q3_550 rfl ?_
  refine L_bi (pc' := 9) rfl q2_6 rfl ?_
  refine L_s (pc' := 10) rfl rfl ?_
  refine L_s (pc' := 11) rfl rfl ?_
  refine L_s (pc' := 12) rfl rfl ?_
  refine L_s (pc' := 13) rfl rfl ?_
  refine L_s (pc' := 14) rfl rfl ?_
  refine L_rI (pc' := 15) rfl sh_216 (by decide) rfl ?_
  exact L_ret rfl ret_i rfl
def m_owns_84 (k_6 : Int32 → Int32 → Int32 → Int32 → Int32 → Sg → Option (Int32)) (v1 : Int32) (v2 : Int32) (v3 : Int32) (v4 : Int32) (v5 : Int32) (g : Sg) : Option (Int32) :=
  (if v4 < 0 then
    (k_6 v1 v2 v3 v5 (v5 + 1) g)
  else
    Option.bind (m_deedOf_k3 v5 g) (fun x1 => Option.bind (m_deedOf_k3 v4 g) (fun x2 => (if x1 < x2 then
      (k_6 v1 v2 v3 v4 (v5 + 1) g)
    else
      (k_6 v1 v2 v3 v5 (v5 + 1) g)))))
def m_owns_6 : Nat → Int32 → Int32 → Int32 → Int32 → Int32 → Sg → Option (Int32)
  | 0, _, _, _, _, _, _ => none
  | n + 1, v1, v2, v3, v4, v5, g =>
    (if (g 216 2) ≤ v5 then
      (if 0 ≤ v4 then
        Option.bind (m_deedOf_k2 v4 g) (fun x1 => (some x1))
      else
        (some (-1)))
    else
      Option.bind (m_deedOf_k0 v5 g) (fun x2 => Option.bind (m_deedOf_k1 v5 g) (fun x3 => Option.bind (m_isIn v1 x2 x3 g) (fun x4 => (if x4 = 0 then
        (m_owns_6 n v1 v2 v3 v4 (v5 + 1) g)
      else
        Option.bind (m_deedOf_k3 v5 g) (fun x5 => (if v2 < x5 then
          (m_owns_6 n v1 v2 v3 v4 (v5 + 1) g)
        else
          Option.bind (m_deedOf_k4 v5 g) (fun x6 => (if v3 < x6 then
            (m_owns_6 n v1 v2 v3 v4 (v5 + 1) g)
          else
            Option.bind (m_deedOf_k5 v5 g) (fun x7 => (if x7 < 0 then
              (m_owns_84 (fun v1 v2 v3 v4 v5 g0 => m_owns_6 n v1 v2 v3 v4 v5 g0) v1 v2 v3 v4 v5 g)
            else
              Option.bind (m_deedOf_k5 v5 g) (fun x8 => (if v3 < x8 then
                (m_owns_84 (fun v1 v2 v3 v4 v5 g0 => m_owns_6 n v1 v2 v3 v4 v5 g0) v1 v2 v3 v4 v5 g)
              else
                (m_owns_6 n v1 v2 v3 v4 (v5 + 1) g))))))))))))))
def m_owns (F : Nat) (v1 : Int32) (v2 : Int32) (v3 : Int32) (g : Sg) : Option (Int32) :=
  (m_owns_6 F v1 v2 v3 (-1) 0 g)
theorem p_m_owns_84 {X : Xx} {d : Nat} {g : Sg} {k_6 : Int32 → Int32 → Int32 → Int32 → Int32 → Sg → Option (Int32)} (hd : 1 ≤ d) (hk_6 : ∀ (v1 : Int32) (v2 : Int32) (v3 : Int32) (v4 : Int32) (v5 : Int32), Lt X d (some .int) k_182 (fun r : Int32 => ((some (.int r), (SHF, g)) : Out)) 6 [some (.ref 215), some (.int v1), some (.int v2), some (.int v3), some (.int v4), some (.int v5)] [] g (k_6 v1 v2 v3 v4 v5 g)) (v1 : Int32) (v2 : Int32) (v3 : Int32) (v4 : Int32) (v5 : Int32) : Lt X d (some .int) k_182 (fun r : Int32 => ((some (.int r), (SHF, g)) : Out)) 84 [some (.ref 215), some (.int v1), some (.int v2), some (.int v3), some (.int v4), some (.int v5)] [] g (m_owns_84 k_6 v1 v2 v3 v4 v5 g) := by
  unfold m_owns_84
  refine L_s (pc' := 86) rfl rfl ?_
  refine L_br (t := 106) (n := 89) rfl rfl (fun _ => ?_) (fun _ => ?_)
  · refine L_s (pc' := 108) rfl rfl ?_
    refine L_s (pc' := 110) (L' := [some (.ref 215), some (.int v1), some (.int v2), some (.int v3), some (.int v5), some (.int v5)]) rfl rfl ?_
    refine L_ii (pc' := 113) (L' := [some (.ref 215), some (.int v1), some (.int v2), some (.int v3), some (.int v5), some (.int (v5 + 1))]) rfl rfl q1_1 rfl rfl rfl ?_
    refine L_s (pc' := 6) rfl rfl ?_
    exact hk_6 _ _ _ _ _
  · refine L_s (pc' := 90) rfl rfl ?_
    refine L_s (pc' := 92) rfl rfl ?_
    refine L_ic (pc' := 93) rfl q1_3 rfl ?_
    refine L_ci (pc' := 96) (as := [.ref 215, .int v5, .int 3]) (rest := []) rfl rfl (e_m_deedOf_k3 (by omega) _ _) rfl fun x1 => ?_
    refine L_s (pc' := 97) rfl rfl ?_
    refine L_s (pc' := 99) rfl rfl ?_
    refine L_ic (pc' := 100) rfl q1_3 rfl ?_
    refine L_ci (pc' := 103) (as := [.ref 215, .int v4, .int 3]) (rest := [.int x1]) rfl rfl (e_m_deedOf_k3 (by omega) _ _) rfl fun x2 => ?_
    refine L_br (t := 110) (n := 106) rfl rfl (fun _ => ?_) (fun _ => ?_)
    · refine L_ii (pc' := 113) (L' := [some (.ref 215), some (.int v1), some (.int v2), some (.int v3), some (.int v4), some (.int (v5 + 1))]) rfl rfl q1_1 rfl rfl rfl ?_
      refine L_s (pc' := 6) rfl rfl ?_
      exact hk_6 _ _ _ _ _
    · refine L_s (pc' := 108) rfl rfl ?_
      refine L_s (pc' := 110) (L' := [some (.ref 215), some (.int v1), some (.int v2), some (.int v3), some (.int v5), some (.int v5)]) rfl rfl ?_
      refine L_ii (pc' := 113) (L' := [some (.ref 215), some (.int v1), some (.int v2), some (.int v3), some (.int v5), some (.int (v5 + 1))]) rfl rfl q1_1 rfl rfl rfl ?_
      refine L_s (pc' := 6) rfl rfl ?_
      exact hk_6 _ _ _ _ _
theorem p_m_owns_6 {X : Xx} {d : Nat} {g : Sg} (hd : 1 ≤ d) : ∀ (n : Nat) (v1 : Int32) (v2 : Int32) (v3 : Int32) (v4 : Int32) (v5 : Int32), Lt X d (some .int) k_182 (fun r : Int32 => ((some (.int r), (SHF, g)) : Out)) 6 [some (.ref 215), some (.int v1), some (.int v2), some (.int v3), some (.int v4), some (.int v5)] [] g (m_owns_6 n v1 v2 v3 v4 v5 g) := by
  intro n
  induction n with
  | zero => intros; exact L_none
  | succ n ih =>
    intro v1 v2 v3 v4 v5
    show Lt X d (some .int) k_182 (fun r : Int32 => ((some (.int r), (SHF, g)) : Out)) 6 [some (.ref 215), some (.int v1), some (.int v2), some (.int v3), some (.int v4), some (.int v5)] [] g (
      (if (g 216 2) ≤ v5 then
        (if 0 ≤ v4 then
          Option.bind (m_deedOf_k2 v4 g) (fun x1 => (some x1))
        else
          (some (-1)))
      else
        Option.bind (m_deedOf_k0 v5 g) (fun x2 => Option.bind (m_deedOf_k1 v5 g) (fun x3 => Option.bind (m_isIn v1 x2 x3 g) (fun x4 => (if x4 = 0 then
          (m_owns_6 n v1 v2 v3 v4 (v5 + 1) g)
        else
          Option.bind (m_deedOf_k3 v5 g) (fun x5 => (if v2 < x5 then
            (m_owns_6 n v1 v2 v3 v4 (v5 + 1) g)
          else
            Option.bind (m_deedOf_k4 v5 g) (fun x6 => (if v3 < x6 then
              (m_owns_6 n v1 v2 v3 v4 (v5 + 1) g)
            else
              Option.bind (m_deedOf_k5 v5 g) (fun x7 => (if x7 < 0 then
                (m_owns_84 (fun v1 v2 v3 v4 v5 g0 => m_owns_6 n v1 v2 v3 v4 v5 g0) v1 v2 v3 v4 v5 g)
              else
                Option.bind (m_deedOf_k5 v5 g) (fun x8 => (if v3 < x8 then
                  (m_owns_84 (fun v1 v2 v3 v4 v5 g0 => m_owns_6 n v1 v2 v3 v4 v5 g0) v1 v2 v3 v4 v5 g)
                else
                  (m_owns_6 n v1 v2 v3 v4 (v5 + 1) g)))))))))))))))
    refine L_s (pc' := 8) rfl rfl ?_
    refine L_s (pc' := 9) rfl rfl ?_
    refine L_gf (pc' := 12) rfl fr_215_0 rfl ?_
    refine L_ic (pc' := 13) rfl q1_2 rfl ?_
    refine L_rIk (pc' := 14) (j := 2) rfl sh_216 (by decide) (by decide) (by decide) rfl ?_
    refine L_br (t := 116) (n := 17) rfl rfl (fun _ => ?_) (fun _ => ?_)
    · refine L_s (pc' := 118) rfl rfl ?_
      refine L_br (t := 125) (n := 121) rfl rfl (fun _ => ?_) (fun _ => ?_)
      · refine L_s (pc' := 126) rfl rfl ?_
        refine L_s (pc' := 128) rfl rfl ?_
        refine L_ic (pc' := 129) rfl q1_2 rfl ?_
        refine L_ci (pc' := 132) (as := [.ref 215, .int v4, .int 2]) (rest := []) rfl rfl (e_m_deedOf_k2 (by omega) _ _) rfl fun x1 => ?_
        exact L_ret rfl ret_i rfl
      · refine L_ic (pc' := 122) rfl q1_m1 rfl ?_
        refine L_s (pc' := 132) rfl rfl ?_
        exact L_ret rfl ret_i rfl
    · refine L_s (pc' := 18) rfl rfl ?_
      refine L_s (pc' := 19) rfl rfl ?_
      refine L_s (pc' := 21) rfl rfl ?_
      refine L_ic (pc' := 22) rfl q1_0 rfl ?_
      refine L_ci (pc' := 25) (as := [.ref 215, .int v5, .int 0]) (rest := [.int v1]) rfl rfl (e_m_deedOf_k0 (by omega) _ _) rfl fun x2 => ?_
      refine L_s (pc' := 26) rfl rfl ?_
      refine L_s (pc' := 28) rfl rfl ?_
      refine L_ic (pc' := 29) rfl q1_1 rfl ?_
      refine L_ci (pc' := 32) (as := [.ref 215, .int v5, .int 1]) (rest := [.int x2, .int v1]) rfl rfl (e_m_deedOf_k1 (by omega) _ _) rfl fun x3 => ?_
      refine L_ci (pc' := 35) (as := [.int v1, .int x2, .int x3]) (rest := []) rfl rfl (e_m_isIn (by omega) _ _ _ _) rfl fun x4 => ?_
      refine L_br (t := 110) (n := 38) rfl rfl (fun _ => ?_) (fun _ => ?_)
      · refine L_ii (pc' := 113) (L' := [some (.ref 215), some (.int v1), some (.int v2), some (.int v3), some (.int v4), some (.int (v5 + 1))]) rfl rfl q1_1 rfl rfl rfl ?_
        refine L_s (pc' := 6) rfl rfl ?_
        exact ih _ _ _ _ _
      · refine L_s (pc' := 39) rfl rfl ?_
        refine L_s (pc' := 41) rfl rfl ?_
        refine L_ic (pc' := 42) rfl q1_3 rfl ?_
        refine L_ci (pc' := 45) (as := [.ref 215, .int v5, .int 3]) (rest := []) rfl rfl (e_m_deedOf_k3 (by omega) _ _) rfl fun x5 => ?_
        refine L_s (pc' := 46) rfl rfl ?_
        refine L_br (t := 110) (n := 49) rfl rfl (fun _ => ?_) (fun _ => ?_)
        · refine L_ii (pc' := 113) (L' := [some (.ref 215), some (.int v1), some (.int v2), some (.int v3), some (.int v4), some (.int (v5 + 1))]) rfl rfl q1_1 rfl rfl rfl ?_
          refine L_s (pc' := 6) rfl rfl ?_
          exact ih _ _ _ _ _
        · refine L_s (pc' := 50) rfl rfl ?_
          refine L_s (pc' := 52) rfl rfl ?_
          refine L_ic (pc' := 53) rfl q1_4 rfl ?_
          refine L_ci (pc' := 56) (as := [.ref 215, .int v5, .int 4]) (rest := []) rfl rfl (e_m_deedOf_k4 (by omega) _ _) rfl fun x6 => ?_
          refine L_s (pc' := 57) rfl rfl ?_
          refine L_br (t := 110) (n := 60) rfl rfl (fun _ => ?_) (fun _ => ?_)
          · refine L_ii (pc' := 113) (L' := [some (.ref 215), some (.int v1), some (.int v2), some (.int v3), some (.int v4), some (.int (v5 + 1))]) rfl rfl q1_1 rfl rfl rfl ?_
            refine L_s (pc' := 6) rfl rfl ?_
            exact ih _ _ _ _ _
          · refine L_s (pc' := 61) rfl rfl ?_
            refine L_s (pc' := 63) rfl rfl ?_
            refine L_ic (pc' := 64) rfl q1_5 rfl ?_
            refine L_ci (pc' := 67) (as := [.ref 215, .int v5, .int 5]) (rest := []) rfl rfl (e_m_deedOf_k5 (by omega) _ _) rfl fun x7 => ?_
            refine L_br (t := 84) (n := 70) rfl rfl (fun _ => ?_) (fun _ => ?_)
            · exact p_m_owns_84 hd (fun _ _ _ _ _ => ih _ _ _ _ _) _ _ _ _ _
            · refine L_s (pc' := 71) rfl rfl ?_
              refine L_s (pc' := 73) rfl rfl ?_
              refine L_ic (pc' := 74) rfl q1_5 rfl ?_
              refine L_ci (pc' := 77) (as := [.ref 215, .int v5, .int 5]) (rest := []) rfl rfl (e_m_deedOf_k5 (by omega) _ _) rfl fun x8 => ?_
              refine L_s (pc' := 78) rfl rfl ?_
              refine L_br (t := 84) (n := 81) rfl rfl (fun _ => ?_) (fun _ => ?_)
              · exact p_m_owns_84 hd (fun _ _ _ _ _ => ih _ _ _ _ _) _ _ _ _ _
              · refine L_s (pc' := 110) rfl rfl ?_
                refine L_ii (pc' := 113) (L' := [some (.ref 215), some (.int v1), some (.int v2), some (.int v3), some (.int v4), some (.int (v5 + 1))]) rfl rfl q1_1 rfl rfl rfl ?_
                refine L_s (pc' := 6) rfl rfl ?_
                exact ih _ _ _ _ _
theorem e_m_owns {X : Xx} {d : Nat} (hd : 2 ≤ d) (F : Nat) (v1 : Int32) (v2 : Int32) (v3 : Int32) (g : Sg) : ∀ r, m_owns F v1 v2 v3 g = some r → EvM zft mtl X d 182 [.ref 215, .int v1, .int v2, .int v3] (SHF, g) ((fun r : Int32 => ((some (.int r), (SHF, g)) : Out)) r) := by
  obtain ⟨d, rfl⟩ : ∃ d0, d = d0 + 1 := ⟨d - 1, by omega⟩
  have hd : 1 ≤ d := by omega
  refine E_in (f := (fun r : Int32 => ((some (.int r), (SHF, g)) : Out))) rfl (Nat.le_of_ble_eq_true rfl) ?_
  unfold m_owns
  change Lt X d (some .int) k_182 _ 0 [some (.ref 215), some (.int v1), some (.int v2), some (.int v3), none, none] [] g _
  refine L_ic (pc' := 1) rfl q1_m1 rfl ?_
  refine L_s (pc' := 3) (L' := [some (.ref 215), some (.int v1), some (.int v2), some (.int v3), some (.int (-1)), none]) rfl rfl ?_
  refine L_ic (pc' := 4) rfl q1_0 rfl ?_
  refine L_s (pc' := 6) (L' := [some (.ref 215), some (.int v1), some (.int v2), some (.int v3), some (.int (-1)), some (.int 0)]) rfl rfl ?_
  exact p_m_owns_6 hd F _ _ _ _ _
def m_opens_16 (F : Nat) : Nat → Int32 → Int32 → Sg → Option (Sg)
  | 0, _, _, _ => none
  | n + 1, v1, v2, g =>
    (if v2 = v1 then
      (some g)
    else
      Option.bind (m_onward F v2 g) (fun x1 => (if inb ((140 + (5 * v2)) + 2) 20360 = true then lt1 (up2 g 216 (Int32.toNatClampNeg ((140 + (5 * v2)) + 2)) x1) (fun g2 => Option.bind (m_channelOf_k1 x1 g2) (fun x3 => (m_opens_16 F n v1 x3 g2))) else none)))
def m_opens (F : Nat) (v1 : Int32) (g : Sg) : Option (Sg) :=
  (if v1 < 0 then
    (some g)
  else
    Option.bind (m_leads F 0 v1 g) (fun (x1, g2) => (if ¬ x1 = 0 then
      (m_opens_16 F F v1 0 g2)
    else
      (some g2))))
theorem p_m_opens_16 {X : Xx} {d : Nat} (hd : 3 ≤ d) (F : Nat) : ∀ (n : Nat) (v1 : Int32) (v2 : Int32) (g : Sg), Lt X d none k_166 (fun r : Sg => ((none, (SHF, r)) : Out)) 16 [some (.ref 215), some (.int v1), some (.int v2), none] [] g (m_opens_16 F n v1 v2 g) := by
  intro n
  induction n with
  | zero => intros; exact L_none
  | succ n ih =>
    intro v1 v2 g
    show Lt X d none k_166 (fun r : Sg => ((none, (SHF, r)) : Out)) 16 [some (.ref 215), some (.int v1), some (.int v2), none] [] g (
      (if v2 = v1 then
        (some g)
      else
        Option.bind (m_onward F v2 g) (fun x1 => (if inb ((140 + (5 * v2)) + 2) 20360 = true then lt1 (up2 g 216 (Int32.toNatClampNeg ((140 + (5 * v2)) + 2)) x1) (fun g2 => Option.bind (m_channelOf_k1 x1 g2) (fun x3 => (m_opens_16 F n v1 x3 g2))) else none))))
    refine L_s (pc' := 17) rfl rfl ?_
    refine L_s (pc' := 18) rfl rfl ?_
    refine L_br (t := 52) (n := 21) rfl rfl (fun _ => ?_) (fun _ => ?_)
    · exact L_ret rfl rfl rfl
    · refine L_s (pc' := 22) rfl rfl ?_
      refine L_s (pc' := 23) rfl rfl ?_
      refine L_ci (pc' := 26) (as := [.ref 215, .int v2]) (rest := []) rfl rfl (e_m_onward (by omega) F _ _) rfl fun x1 => ?_
      refine L_s (pc' := 27) (L' := [some (.ref 215), some (.int v1), some (.int v2), some (.int x1)]) rfl rfl ?_
      refine L_s (pc' := 28) rfl rfl ?_
      refine L_gf (pc' := 31) rfl fr_215_0 rfl ?_
      refine L_si (pc' := 34) rfl q3_140 rfl ?_
      refine L_ic (pc' := 35) rfl q1_5 rfl ?_
      refine L_s (pc' := 36) rfl rfl ?_
      refine L_s (pc' := 37) rfl rfl ?_
      refine L_s (pc' := 38) rfl rfl ?_
      refine L_ic (pc' := 39) rfl q1_2 rfl ?_
      refine L_s (pc' := 40) rfl rfl ?_
      refine L_s (pc' := 41) rfl rfl ?_
      refine L_wI (pc' := 42) rfl sh_216 (by decide) rfl ?_
      refine L_let fun g2 _ => ?_
      refine L_s (pc' := 43) rfl rfl ?_
      refine L_s (pc' := 44) rfl rfl ?_
      refine L_ic (pc' := 45) rfl q1_1 rfl ?_
      refine L_ci (pc' := 48) (as := [.ref 215, .int x1, .int 1]) (rest := []) rfl rfl (e_m_channelOf_k1 (by omega) _ _) rfl fun x3 => ?_
      refine L_s (pc' := 49) (L' := [some (.ref 215), some (.int v1), some (.int x3), some (.int x1)]) rfl rfl ?_
      refine L_s (pc' := 16) rfl rfl ?_
      refine L_wk (L' := [some (.ref 215), some (.int v1), some (.int x3), none]) (wk_s (wk_s (wk_s (wk_n wk_nil)))) ?_
      exact ih _ _ _
theorem e_m_opens {X : Xx} {d : Nat} (hd : 4 ≤ d) (F : Nat) (v1 : Int32) (g : Sg) : ∀ r, m_opens F v1 g = some r → EvM zft mtl X d 166 [.ref 215, .int v1] (SHF, g) ((fun r : Sg => ((none, (SHF, r)) : Out)) r) := by
  obtain ⟨d, rfl⟩ : ∃ d0, d = d0 + 1 := ⟨d - 1, by omega⟩
  have hd : 3 ≤ d := by omega
  refine E_in (f := (fun r : Sg => ((none, (SHF, r)) : Out))) rfl (Nat.le_of_ble_eq_true rfl) ?_
  unfold m_opens
  change Lt X d none k_166 _ 0 [some (.ref 215), some (.int v1), none, none] [] g _
  refine L_s (pc' := 1) rfl rfl ?_
  refine L_br (t := 13) (n := 4) rfl rfl (fun _ => ?_) (fun _ => ?_)
  · exact L_ret rfl rfl rfl
  · refine L_s (pc' := 5) rfl rfl ?_
    refine L_ic (pc' := 6) rfl q1_0 rfl ?_
    refine L_s (pc' := 7) rfl rfl ?_
    refine L_cig (pc' := 10) (as := [.ref 215, .int 0, .int v1]) (rest := []) rfl rfl (e_m_leads (by omega) F _ _ _) rfl fun x1 g2 => ?_
    refine L_br (t := 14) (n := 13) rfl rfl (fun _ => ?_) (fun _ => ?_)
    · refine L_ic (pc' := 15) rfl q1_0 rfl ?_
      refine L_s (pc' := 16) (L' := [some (.ref 215), some (.int v1), some (.int 0), none]) rfl rfl ?_
      exact p_m_opens_16 hd F F _ _ _
    · exact L_ret rfl rfl rfl
def m_begins (F : Nat)  (g : Sg) : Option (Sg) :=
  lt1 (((g 216 3) / 4) : Int32) (fun x1 => Option.bind (m_today g) (fun x2 => Option.bind (m_owns F (x1 - x1 / 168 * 168) (x1 / 168) x2 g) (fun x3 => (if inb (1870 + x1) 20360 = true then lt1 (up2 g 216 (Int32.toNatClampNeg (1870 + x1)) x3) (fun g4 => lt1 (up2 g4 216 6 (x1 + 1)) (fun g5 => (if x3 < 0 then
    (some g5)
  else
    (if inb (30 + x3) 20360 = true then Option.bind (m_opens F (g5 216 (Int32.toNatClampNeg (30 + x3))) g5) (fun g6 => (some g6)) else none)))) else none))))
theorem e_m_begins {X : Xx} {d : Nat} (hd : 5 ≤ d) (F : Nat)  (g : Sg) : ∀ r, m_begins F  g = some r → EvM zft mtl X d 172 [.ref 215] (SHF, g) ((fun r : Sg => ((none, (SHF, r)) : Out)) r) := by
  obtain ⟨d, rfl⟩ : ∃ d0, d = d0 + 1 := ⟨d - 1, by omega⟩
  have hd : 4 ≤ d := by omega
  refine E_in (f := (fun r : Sg => ((none, (SHF, r)) : Out))) rfl (Nat.le_of_ble_eq_true rfl) ?_
  unfold m_begins
  change Lt X d none k_172 _ 0 [some (.ref 215), none, none] [] g _
  refine L_s (pc' := 1) rfl rfl ?_
  refine L_gf (pc' := 4) rfl fr_215_0 rfl ?_
  refine L_ic (pc' := 5) rfl q1_3 rfl ?_
  refine L_rIk (pc' := 6) (j := 3) rfl sh_216 (by decide) (by decide) (by decide) rfl ?_
  refine L_ic (pc' := 7) rfl q1_4 rfl ?_
  refine L_dvk (pc' := 8) rfl (by decide) rfl ?_
  refine L_li fun x1 _ => ?_
  refine L_s (pc' := 9) (L' := [some (.ref 215), some (.int x1), none]) rfl rfl ?_
  refine L_s (pc' := 10) rfl rfl ?_
  refine L_s (pc' := 11) rfl rfl ?_
  refine L_si (pc' := 14) rfl q3_168 rfl ?_
  refine L_rmk (pc' := 15) rfl (by decide) rfl ?_
  refine L_s (pc' := 16) rfl rfl ?_
  refine L_si (pc' := 19) rfl q3_168 rfl ?_
  refine L_dvk (pc' := 20) rfl (by decide) rfl ?_
  refine L_s (pc' := 21) rfl rfl ?_
  refine L_ci (pc' := 24) (as := [.ref 215]) (rest := [.int (x1 / 168), .int (x1 - x1 / 168 * 168), .ref 215]) rfl rfl (e_m_today (by omega) _) rfl fun x2 => ?_
  refine L_ci (pc' := 27) (as := [.ref 215, .int (x1 - x1 / 168 * 168), .int (x1 / 168), .int x2]) (rest := []) rfl rfl (e_m_owns (by omega) F _ _ _ _) rfl fun x3 => ?_
  refine L_s (pc' := 28) (L' := [some (.ref 215), some (.int x1), some (.int x3)]) rfl rfl ?_
  refine L_s (pc' := 29) rfl rfl ?_
  refine L_gf (pc' := 32) rfl fr_215_0 rfl ?_
  refine L_si (pc' := 35) rfl q3_1870 rfl ?_
  refine L_s (pc' := 36) rfl rfl ?_
  refine L_s (pc' := 37) rfl rfl ?_
  refine L_s (pc' := 38) rfl rfl ?_
  refine L_wI (pc' := 39) rfl sh_216 (by decide) rfl ?_
  refine L_let fun g4 _ => ?_
  refine L_s (pc' := 40) rfl rfl ?_
  refine L_gf (pc' := 43) rfl fr_215_0 rfl ?_
  refine L_bi (pc' := 45) rfl q2_6 rfl ?_
  refine L_s (pc' := 46) rfl rfl ?_
  refine L_ic (pc' := 47) rfl q1_1 rfl ?_
  refine L_s (pc' := 48) rfl rfl ?_
  refine L_wIk (pc' := 49) (j := 6) rfl sh_216 (by decide) (by decide) (by decide) rfl ?_
  refine L_let fun g5 _ => ?_
  refine L_s (pc' := 50) rfl rfl ?_
  refine L_br (t := 66) (n := 53) rfl rfl (fun _ => ?_) (fun _ => ?_)
  · exact L_ret rfl rfl rfl
  · refine L_s (pc' := 54) rfl rfl ?_
    refine L_s (pc' := 55) rfl rfl ?_
    refine L_gf (pc' := 58) rfl fr_215_0 rfl ?_
    refine L_bi (pc' := 60) rfl q2_30 rfl ?_
    refine L_s (pc' := 61) rfl rfl ?_
    refine L_s (pc' := 62) rfl rfl ?_
    refine L_rI (pc' := 63) rfl sh_216 (by decide) rfl ?_
    refine L_cv (pc' := 66) (as := [.ref 215, .int (g5 216 (Int32.toNatClampNeg (30 + x3)))]) (rest := []) rfl rfl (e_m_opens (by omega) F _ _) rfl fun g6 => ?_
    exact L_ret rfl rfl rfl
def m_go_58_2 (F : Nat) (k_28 : Int32 → Int32 → Sg → Option (Int32 × Sg)) : Nat → Int32 → Int32 → Int32 → Sg → Option (Int32 × Sg)
  | 0, _, _, _, _ => none
  | n + 1, v1, v2, v4, g =>
    (if (g 216 0) ≤ v4 then
      lt1 (up2 g 216 3 ((g 216 3) + 1)) (fun g1 => (k_28 v1 (v2 + 1) g1))
    else
      Option.bind (m_steps_k1 F v4 g) (fun g2 => (m_go_58_2 F k_28 n v1 v2 (v4 + 1) g2)))
def m_go_58 (F : Nat) (k_28 : Int32 → Int32 → Sg → Option (Int32 × Sg)) : Nat → Int32 → Int32 → Int32 → Sg → Option (Int32 × Sg)
  | 0, _, _, _, _ => none
  | n + 1, v1, v2, v4, g =>
    (if (g 216 0) ≤ v4 then
      (m_go_58_2 F k_28 F v1 v2 0 g)
    else
      Option.bind (m_steps_k0 F v4 g) (fun g1 => (m_go_58 F k_28 n v1 v2 (v4 + 1) g1)))
def m_go_48 (F : Nat) (k_28 : Int32 → Int32 → Sg → Option (Int32 × Sg)) (v1 : Int32) (v2 : Int32) (g : Sg) : Option (Int32 × Sg) :=
  (m_go_58 F k_28 F v1 v2 0 g)
def m_go_28 (F : Nat) : Nat → Int32 → Int32 → Sg → Option (Int32 × Sg)
  | 0, _, _, _ => none
  | n + 1, v1, v2, g =>
    (if v1 ≤ v2 then
      (some ((g 216 3), g))
    else
      (if ¬ ((g 216 3) - (g 216 3) / 4 * 4) = 0 then
        (m_go_48 F (fun v1 v2 g0 => m_go_28 F n v1 v2 g0) v1 v2 g)
      else
        Option.bind (m_begins F g) (fun g1 => (m_go_48 F (fun v1 v2 g0 => m_go_28 F n v1 v2 g0) v1 v2 g1))))
def m_go (F : Nat) (v1 : Int32) (g : Sg) : Option (Int32 × Sg) :=
  Option.bind (m_isIn v1 1 96 g) (fun x1 => (if x1 = 0 then
    (some ((-1), g))
  else
    (if ((g 216 3) + v1) ≤ 9599 then
      (m_go_28 F F v1 0 g)
    else
      (some ((-1), g)))))
theorem p_m_go_58_2 {X : Xx} {d : Nat} {k_28 : Int32 → Int32 → Sg → Option (Int32 × Sg)} (hd : 5 ≤ d) (hk_28 : ∀ (v1 : Int32) (v2 : Int32) (g : Sg), Lt X d (some .int) k_171 (fun r : Int32 × Sg => ((some (.int r.1), (SHF, r.2)) : Out)) 28 [some (.ref 215), some (.int v1), some (.int v2), none, none] [] g (k_28 v1 v2 g)) (F : Nat) : ∀ (n : Nat) (v1 : Int32) (v2 : Int32) (v4 : Int32) (g : Sg), Lt X d (some .int) k_171 (fun r : Int32 × Sg => ((some (.int r.1), (SHF, r.2)) : Out)) 58 [some (.ref 215), some (.int v1), some (.int v2), some (.int 1), some (.int v4)] [] g (m_go_58_2 F k_28 n v1 v2 v4 g) := by
  intro n
  induction n with
  | zero => intros; exact L_none
  | succ n ih =>
    intro v1 v2 v4 g
    show Lt X d (some .int) k_171 (fun r : Int32 × Sg => ((some (.int r.1), (SHF, r.2)) : Out)) 58 [some (.ref 215), some (.int v1), some (.int v2), some (.int 1), some (.int v4)] [] g (
      (if (g 216 0) ≤ v4 then
        lt1 (up2 g 216 3 ((g 216 3) + 1)) (fun g1 => (k_28 v1 (v2 + 1) g1))
      else
        Option.bind (m_steps_k1 F v4 g) (fun g2 => (m_go_58_2 F k_28 n v1 v2 (v4 + 1) g2))))
    refine L_s (pc' := 60) rfl rfl ?_
    refine L_s (pc' := 61) rfl rfl ?_
    refine L_gf (pc' := 64) rfl fr_215_0 rfl ?_
    refine L_ic (pc' := 65) rfl q1_0 rfl ?_
    refine L_rIk (pc' := 66) (j := 0) rfl sh_216 (by decide) (by decide) (by decide) rfl ?_
    refine L_br (t := 82) (n := 69) rfl rfl (fun _ => ?_) (fun _ => ?_)
    · refine L_ii (pc' := 85) (L' := [some (.ref 215), some (.int v1), some (.int v2), some (.int 2), some (.int v4)]) rfl rfl q1_1 (by decide : (1 : Int32) + 1 = 2) rfl rfl ?_
      refine L_s (pc' := 50) rfl rfl ?_
      refine L_s (pc' := 51) rfl rfl ?_
      refine L_ic (pc' := 52) rfl q1_2 rfl ?_
      refine L_bt (c := (2 : Int32) ≤ 2) (t := 88) (n := 55) rfl rfl (by decide) ?_
      refine L_s (pc' := 89) rfl rfl ?_
      refine L_gf (pc' := 92) rfl fr_215_0 rfl ?_
      refine L_ic (pc' := 93) rfl q1_3 rfl ?_
      refine L_s (pc' := 94) rfl rfl ?_
      refine L_rIk (pc' := 95) (j := 3) rfl sh_216 (by decide) (by decide) (by decide) rfl ?_
      refine L_ic (pc' := 96) rfl q1_1 rfl ?_
      refine L_s (pc' := 97) rfl rfl ?_
      refine L_wIk (pc' := 98) (j := 3) rfl sh_216 (by decide) (by decide) (by decide) rfl ?_
      refine L_let fun g1 _ => ?_
      refine L_ii (pc' := 101) (L' := [some (.ref 215), some (.int v1), some (.int (v2 + 1)), some (.int 2), some (.int v4)]) rfl rfl q1_1 rfl rfl rfl ?_
      refine L_s (pc' := 28) rfl rfl ?_
      refine L_wk (L' := [some (.ref 215), some (.int v1), some (.int (v2 + 1)), none, none]) (wk_s (wk_s (wk_s (wk_n (wk_n wk_nil))))) ?_
      exact hk_28 _ _ _
    · refine L_s (pc' := 70) rfl rfl ?_
      refine L_s (pc' := 71) rfl rfl ?_
      refine L_s (pc' := 73) rfl rfl ?_
      refine L_cv (pc' := 76) (as := [.ref 215, .int 1, .int v4]) (rest := []) rfl rfl (e_m_steps_k1 (by omega) F _ _) rfl fun g2 => ?_
      refine L_ii (pc' := 79) (L' := [some (.ref 215), some (.int v1), some (.int v2), some (.int 1), some (.int (v4 + 1))]) rfl rfl q1_1 rfl rfl rfl ?_
      refine L_s (pc' := 58) rfl rfl ?_
      exact ih _ _ _ _
theorem p_m_go_58 {X : Xx} {d : Nat} {k_28 : Int32 → Int32 → Sg → Option (Int32 × Sg)} (hd : 5 ≤ d) (hk_28 : ∀ (v1 : Int32) (v2 : Int32) (g : Sg), Lt X d (some .int) k_171 (fun r : Int32 × Sg => ((some (.int r.1), (SHF, r.2)) : Out)) 28 [some (.ref 215), some (.int v1), some (.int v2), none, none] [] g (k_28 v1 v2 g)) (F : Nat) : ∀ (n : Nat) (v1 : Int32) (v2 : Int32) (v4 : Int32) (g : Sg), Lt X d (some .int) k_171 (fun r : Int32 × Sg => ((some (.int r.1), (SHF, r.2)) : Out)) 58 [some (.ref 215), some (.int v1), some (.int v2), some (.int 0), some (.int v4)] [] g (m_go_58 F k_28 n v1 v2 v4 g) := by
  intro n
  induction n with
  | zero => intros; exact L_none
  | succ n ih =>
    intro v1 v2 v4 g
    show Lt X d (some .int) k_171 (fun r : Int32 × Sg => ((some (.int r.1), (SHF, r.2)) : Out)) 58 [some (.ref 215), some (.int v1), some (.int v2), some (.int 0), some (.int v4)] [] g (
      (if (g 216 0) ≤ v4 then
        (m_go_58_2 F k_28 F v1 v2 0 g)
      else
        Option.bind (m_steps_k0 F v4 g) (fun g1 => (m_go_58 F k_28 n v1 v2 (v4 + 1) g1))))
    refine L_s (pc' := 60) rfl rfl ?_
    refine L_s (pc' := 61) rfl rfl ?_
    refine L_gf (pc' := 64) rfl fr_215_0 rfl ?_
    refine L_ic (pc' := 65) rfl q1_0 rfl ?_
    refine L_rIk (pc' := 66) (j := 0) rfl sh_216 (by decide) (by decide) (by decide) rfl ?_
    refine L_br (t := 82) (n := 69) rfl rfl (fun _ => ?_) (fun _ => ?_)
    · refine L_ii (pc' := 85) (L' := [some (.ref 215), some (.int v1), some (.int v2), some (.int 1), some (.int v4)]) rfl rfl q1_1 (by decide : (0 : Int32) + 1 = 1) rfl rfl ?_
      refine L_s (pc' := 50) rfl rfl ?_
      refine L_s (pc' := 51) rfl rfl ?_
      refine L_ic (pc' := 52) rfl q1_2 rfl ?_
      refine L_bf (c := (2 : Int32) ≤ 1) (t := 88) (n := 55) rfl rfl (by decide) ?_
      refine L_ic (pc' := 56) rfl q1_0 rfl ?_
      refine L_s (pc' := 58) (L' := [some (.ref 215), some (.int v1), some (.int v2), some (.int 1), some (.int 0)]) rfl rfl ?_
      exact p_m_go_58_2 hd hk_28 F F _ _ _ _
    · refine L_s (pc' := 70) rfl rfl ?_
      refine L_s (pc' := 71) rfl rfl ?_
      refine L_s (pc' := 73) rfl rfl ?_
      refine L_cv (pc' := 76) (as := [.ref 215, .int 0, .int v4]) (rest := []) rfl rfl (e_m_steps_k0 (by omega) F _ _) rfl fun g1 => ?_
      refine L_ii (pc' := 79) (L' := [some (.ref 215), some (.int v1), some (.int v2), some (.int 0), some (.int (v4 + 1))]) rfl rfl q1_1 rfl rfl rfl ?_
      refine L_s (pc' := 58) rfl rfl ?_
      exact ih _ _ _ _
theorem p_m_go_48 {X : Xx} {d : Nat} {k_28 : Int32 → Int32 → Sg → Option (Int32 × Sg)} (hd : 5 ≤ d) (hk_28 : ∀ (v1 : Int32) (v2 : Int32) (g : Sg), Lt X d (some .int) k_171 (fun r : Int32 × Sg => ((some (.int r.1), (SHF, r.2)) : Out)) 28 [some (.ref 215), some (.int v1), some (.int v2), none, none] [] g (k_28 v1 v2 g)) (F : Nat) (v1 : Int32) (v2 : Int32) (g : Sg) : Lt X d (some .int) k_171 (fun r : Int32 × Sg => ((some (.int r.1), (SHF, r.2)) : Out)) 48 [some (.ref 215), some (.int v1), some (.int v2), none, none] [] g (m_go_48 F k_28 v1 v2 g) := by
  unfold m_go_48
  refine L_ic (pc' := 49) rfl q1_0 rfl ?_
  refine L_s (pc' := 50) (L' := [some (.ref 215), some (.int v1), some (.int v2), some (.int 0), none]) rfl rfl ?_
  refine L_s (pc' := 51) rfl rfl ?_
  refine L_ic (pc' := 52) rfl q1_2 rfl ?_
  refine L_bf (c := (2 : Int32) ≤ 0) (t := 88) (n := 55) rfl rfl (by decide) ?_
  refine L_ic (pc' := 56) rfl q1_0 rfl ?_
  refine L_s (pc' := 58) (L' := [some (.ref 215), some (.int v1), some (.int v2), some (.int 0), some (.int 0)]) rfl rfl ?_
  exact p_m_go_58 hd hk_28 F F _ _ _ _
theorem p_m_go_28 {X : Xx} {d : Nat} (hd : 5 ≤ d) (F : Nat) : ∀ (n : Nat) (v1 : Int32) (v2 : Int32) (g : Sg), Lt X d (some .int) k_171 (fun r : Int32 × Sg => ((some (.int r.1), (SHF, r.2)) : Out)) 28 [some (.ref 215), some (.int v1), some (.int v2), none, none] [] g (m_go_28 F n v1 v2 g) := by
  intro n
  induction n with
  | zero => intros; exact L_none
  | succ n ih =>
    intro v1 v2 g
    show Lt X d (some .int) k_171 (fun r : Int32 × Sg => ((some (.int r.1), (SHF, r.2)) : Out)) 28 [some (.ref 215), some (.int v1), some (.int v2), none, none] [] g (
      (if v1 ≤ v2 then
        (some ((g 216 3), g))
      else
        (if ¬ ((g 216 3) - (g 216 3) / 4 * 4) = 0 then
          (m_go_48 F (fun v1 v2 g0 => m_go_28 F n v1 v2 g0) v1 v2 g)
        else
          Option.bind (m_begins F g) (fun g1 => (m_go_48 F (fun v1 v2 g0 => m_go_28 F n v1 v2 g0) v1 v2 g1)))))
    refine L_s (pc' := 29) rfl rfl ?_
    refine L_s (pc' := 30) rfl rfl ?_
    refine L_br (t := 104) (n := 33) rfl rfl (fun _ => ?_) (fun _ => ?_)
    · refine L_s (pc' := 105) rfl rfl ?_
      refine L_gf (pc' := 108) rfl fr_215_0 rfl ?_
      refine L_ic (pc' := 109) rfl q1_3 rfl ?_
      refine L_rIk (pc' := 110) (j := 3) rfl sh_216 (by decide) (by decide) (by decide) rfl ?_
      exact L_ret rfl ret_i rfl
    · refine L_s (pc' := 34) rfl rfl ?_
      refine L_gf (pc' := 37) rfl fr_215_0 rfl ?_
      refine L_ic (pc' := 38) rfl q1_3 rfl ?_
      refine L_rIk (pc' := 39) (j := 3) rfl sh_216 (by decide) (by decide) (by decide) rfl ?_
      refine L_ic (pc' := 40) rfl q1_4 rfl ?_
      refine L_rmk (pc' := 41) rfl (by decide) rfl ?_
      refine L_br (t := 48) (n := 44) rfl rfl (fun _ => ?_) (fun _ => ?_)
      · exact p_m_go_48 hd (fun _ _ _ => ih _ _ _) F _ _ _
      · refine L_s (pc' := 45) rfl rfl ?_
        refine L_cv (pc' := 48) (as := [.ref 215]) (rest := []) rfl rfl (e_m_begins (by omega) F _) rfl fun g1 => ?_
        exact p_m_go_48 hd (fun _ _ _ => ih _ _ _) F _ _ _
theorem e_m_go {X : Xx} {d : Nat} (hd : 6 ≤ d) (F : Nat) (v1 : Int32) (g : Sg) : ∀ r, m_go F v1 g = some r → EvM zft mtl X d 171 [.ref 215, .int v1] (SHF, g) ((fun r : Int32 × Sg => ((some (.int r.1), (SHF, r.2)) : Out)) r) := by
  obtain ⟨d, rfl⟩ : ∃ d0, d = d0 + 1 := ⟨d - 1, by omega⟩
  have hd : 5 ≤ d := by omega
  refine E_in (f := (fun r : Int32 × Sg => ((some (.int r.1), (SHF, r.2)) : Out))) rfl (Nat.le_of_ble_eq_true rfl) ?_
  unfold m_go
  change Lt X d (some .int) k_171 _ 0 [some (.ref 215), some (.int v1), none, none, none] [] g _
  refine L_s (pc' := 1) rfl rfl ?_
  refine L_ic (pc' := 2) rfl q1_1 rfl ?_
  refine L_bi (pc' := 4) rfl q2_96 rfl ?_
  refine L_ci (pc' := 7) (as := [.int v1, .int 1, .int 96]) (rest := []) rfl rfl (e_m_isIn (by omega) _ _ _ _) rfl fun x1 => ?_
  refine L_br (t := 24) (n := 10) rfl rfl (fun _ => ?_) (fun _ => ?_)
  · refine L_ic (pc' := 25) rfl q1_m1 rfl ?_
    exact L_ret rfl ret_i rfl
  · refine L_s (pc' := 11) rfl rfl ?_
    refine L_gf (pc' := 14) rfl fr_215_0 rfl ?_
    refine L_ic (pc' := 15) rfl q1_3 rfl ?_
    refine L_rIk (pc' := 16) (j := 3) rfl sh_216 (by decide) (by decide) (by decide) rfl ?_
    refine L_s (pc' := 17) rfl rfl ?_
    refine L_s (pc' := 18) rfl rfl ?_
    refine L_si (pc' := 21) rfl q3_9599 rfl ?_
    refine L_br (t := 26) (n := 24) rfl rfl (fun _ => ?_) (fun _ => ?_)
    · refine L_ic (pc' := 27) rfl q1_0 rfl ?_
      refine L_s (pc' := 28) (L' := [some (.ref 215), some (.int v1), some (.int 0), none, none]) rfl rfl ?_
      exact p_m_go_28 hd F F _ _ _
    · refine L_ic (pc' := 25) rfl q1_m1 rfl ?_
      exact L_ret rfl ret_i rfl
def m_nodeOf (v1 : Int32) (v2 : Int32) (g : Sg) : Option (Int32) :=
  (if inb ((140 + (5 * v1)) + v2) 20360 = true then (some (g 216 (Int32.toNatClampNeg ((140 + (5 * v1)) + v2)))) else none)
theorem e_m_nodeOf {X : Xx} {d : Nat} (hd : 1 ≤ d) (v1 : Int32) (v2 : Int32) (g : Sg) : ∀ r, m_nodeOf v1 v2 g = some r → EvM zft mtl X d 152 [.ref 215, .int v1, .int v2] (SHF, g) ((fun r : Int32 => ((some (.int r), (SHF, g)) : Out)) r) := by
  obtain ⟨d, rfl⟩ : ∃ d0, d = d0 + 1 := ⟨d - 1, by omega⟩
  have hd : 0 ≤ d := by omega
  refine E_in (f := (fun r : Int32 => ((some (.int r), (SHF, g)) : Out))) rfl (Nat.le_of_ble_eq_true rfl) ?_
  unfold m_nodeOf
  change Lt X d (some .int) k_152 _ 0 [some (.ref 215), some (.int v1), some (.int v2)] [] g _
  refine L_s (pc' := 1) rfl rfl ?_
  refine L_gf (pc' := 4) rfl fr_215_0 rfl ?_
  refine L_si (pc' := 7) rfl q3_140 rfl ?_
  refine L_ic (pc' := 8) rfl q1_5 rfl ?_
  refine L_s (pc' := 9) rfl rfl ?_
  refine L_s (pc' := 10) rfl rfl ?_
  refine L_s (pc' := 11) rfl rfl ?_
  refine L_s (pc' := 12) rfl rfl ?_
  refine L_s (pc' := 13) rfl rfl ?_
  refine L_rI (pc' := 14) rfl sh_216 (by decide) rfl ?_
  exact L_ret rfl ret_i rfl
def m_about (v1 : Int32) (v2 : Int32) (g : Sg) : Option (Int32) :=
  Option.bind (m_isOf_k0 v1 g) (fun x1 => (if ¬ x1 = 0 then
    Option.bind (m_isIn v2 0 4 g) (fun x2 => (if x2 = 0 then
      (some (-2))
    else
      Option.bind (m_nodeOf v1 v2 g) (fun x3 => (some x3))))
  else
    (some (-2))))
theorem e_m_about {X : Xx} {d : Nat} (hd : 3 ≤ d) (v1 : Int32) (v2 : Int32) (g : Sg) : ∀ r, m_about v1 v2 g = some r → EvM zft mtl X d 173 [.ref 215, .int v1, .int v2] (SHF, g) ((fun r : Int32 => ((some (.int r), (SHF, g)) : Out)) r) := by
  obtain ⟨d, rfl⟩ : ∃ d0, d = d0 + 1 := ⟨d - 1, by omega⟩
  have hd : 2 ≤ d := by omega
  refine E_in (f := (fun r : Int32 => ((some (.int r), (SHF, g)) : Out))) rfl (Nat.le_of_ble_eq_true rfl) ?_
  unfold m_about
  change Lt X d (some .int) k_173 _ 0 [some (.ref 215), some (.int v1), some (.int v2)] [] g _
  refine L_s (pc' := 1) rfl rfl ?_
  refine L_s (pc' := 2) rfl rfl ?_
  refine L_ic (pc' := 3) rfl q1_0 rfl ?_
  refine L_ci (pc' := 6) (as := [.ref 215, .int v1, .int 0]) (rest := []) rfl rfl (e_m_isOf_k0 (by omega) _ _) rfl fun x1 => ?_
  refine L_br (t := 12) (n := 9) rfl rfl (fun _ => ?_) (fun _ => ?_)
  · refine L_s (pc' := 13) rfl rfl ?_
    refine L_ic (pc' := 14) rfl q1_0 rfl ?_
    refine L_ic (pc' := 15) rfl q1_4 rfl ?_
    refine L_ci (pc' := 18) (as := [.int v2, .int 0, .int 4]) (rest := []) rfl rfl (e_m_isIn (by omega) _ _ _ _) rfl fun x2 => ?_
    refine L_br (t := 30) (n := 21) rfl rfl (fun _ => ?_) (fun _ => ?_)
    · refine L_bi (pc' := 32) rfl q2_m2 rfl ?_
      exact L_ret rfl ret_i rfl
    · refine L_s (pc' := 22) rfl rfl ?_
      refine L_s (pc' := 23) rfl rfl ?_
      refine L_s (pc' := 24) rfl rfl ?_
      refine L_ci (pc' := 27) (as := [.ref 215, .int v1, .int v2]) (rest := []) rfl rfl (e_m_nodeOf (by omega) _ _ _) rfl fun x3 => ?_
      refine L_s (pc' := 32) rfl rfl ?_
      exact L_ret rfl ret_i rfl
  · refine L_bi (pc' := 11) rfl q2_m2 rfl ?_
    exact L_ret rfl ret_i rfl
def m_wayAt (v1 : Int32) (v2 : Int32) (v3 : Int32) (g : Sg) : Option (Int32) :=
  (some ((290 + (9 * ((14 * v1) + v2))) + (v3 - v3 / 9 * 9)))
theorem e_m_wayAt {X : Xx} {d : Nat} (hd : 1 ≤ d) (v1 : Int32) (v2 : Int32) (v3 : Int32) (g : Sg) : ∀ r, m_wayAt v1 v2 v3 g = some r → EvM zft mtl X d 158 [.ref 215, .int v1, .int v2, .int v3] (SHF, g) ((fun r : Int32 => ((some (.int r), (SHF, g)) : Out)) r) := by
  obtain ⟨d, rfl⟩ : ∃ d0, d = d0 + 1 := ⟨d - 1, by omega⟩
  have hd : 0 ≤ d := by omega
  refine E_in (f := (fun r : Int32 => ((some (.int r), (SHF, g)) : Out))) rfl (Nat.le_of_ble_eq_true rfl) ?_
  unfold m_wayAt
  change Lt X d (some .int) k_158 _ 0 [some (.ref 215), some (.int v1), some (.int v2), some (.int v3)] [] g _
  refine L_si (pc' := 3) rfl q3_290 rfl ?_
  refine L_bi (pc' := 5) rfl q2_9 rfl ?_
  refine L_bi (pc' := 7) rfl q2_14 rfl ?_
  refine L_s (pc' := 8) rfl rfl ?_
  refine L_s (pc' := 9) rfl rfl ?_
  refine L_s (pc' := 10) rfl rfl ?_
  refine L_s (pc' := 11) rfl rfl ?_
  refine L_s (pc' := 12) rfl rfl ?_
  refine L_s (pc' := 13) rfl rfl ?_
  refine L_s (pc' := 14) rfl rfl ?_
  refine L_bi (pc' := 16) rfl q2_9 rfl ?_
  refine L_rmk (pc' := 17) rfl (by decide) rfl ?_
  refine L_s (pc' := 18) rfl rfl ?_
  exact L_ret rfl ret_i rfl
def m_underWay_5 : Nat → Int32 → Int32 → Int32 → Int32 → Sg → Option (Int32)
  | 0, _, _, _, _, _ => none
  | n + 1, v1, v2, v3, v4, g =>
    (if 9 ≤ v4 then
      (some v3)
    else
      Option.bind (m_wayAt v1 v2 v4 g) (fun x1 => (if inb x1 20360 = true then lt1 ((v3 + (g 216 (Int32.toNatClampNeg x1))) : Int32) (fun x2 => (m_underWay_5 n v1 v2 x2 (v4 + 1) g)) else none)))
def m_underWay (F : Nat) (v1 : Int32) (v2 : Int32) (g : Sg) : Option (Int32) :=
  (m_underWay_5 F v1 v2 0 0 g)
theorem p_m_underWay_5 {X : Xx} {d : Nat} {g : Sg} (hd : 1 ≤ d) : ∀ (n : Nat) (v1 : Int32) (v2 : Int32) (v3 : Int32) (v4 : Int32), Lt X d (some .int) k_174 (fun r : Int32 => ((some (.int r), (SHF, g)) : Out)) 5 [some (.ref 215), some (.int v1), some (.int v2), some (.int v3), some (.int v4)] [] g (m_underWay_5 n v1 v2 v3 v4 g) := by
  intro n
  induction n with
  | zero => intros; exact L_none
  | succ n ih =>
    intro v1 v2 v3 v4
    show Lt X d (some .int) k_174 (fun r : Int32 => ((some (.int r), (SHF, g)) : Out)) 5 [some (.ref 215), some (.int v1), some (.int v2), some (.int v3), some (.int v4)] [] g (
      (if 9 ≤ v4 then
        (some v3)
      else
        Option.bind (m_wayAt v1 v2 v4 g) (fun x1 => (if inb x1 20360 = true then lt1 ((v3 + (g 216 (Int32.toNatClampNeg x1))) : Int32) (fun x2 => (m_underWay_5 n v1 v2 x2 (v4 + 1) g)) else none))))
    refine L_s (pc' := 7) rfl rfl ?_
    refine L_bi (pc' := 9) rfl q2_9 rfl ?_
    refine L_br (t := 34) (n := 12) rfl rfl (fun _ => ?_) (fun _ => ?_)
    · refine L_s (pc' := 35) rfl rfl ?_
      exact L_ret rfl ret_i rfl
    · refine L_s (pc' := 13) rfl rfl ?_
      refine L_s (pc' := 14) rfl rfl ?_
      refine L_gf (pc' := 17) rfl fr_215_0 rfl ?_
      refine L_s (pc' := 18) rfl rfl ?_
      refine L_s (pc' := 19) rfl rfl ?_
      refine L_s (pc' := 20) rfl rfl ?_
      refine L_s (pc' := 22) rfl rfl ?_
      refine L_ci (pc' := 25) (as := [.ref 215, .int v1, .int v2, .int v4]) (rest := [.ref 216, .int v3]) rfl rfl (e_m_wayAt (by omega) _ _ _ _) rfl fun x1 => ?_
      refine L_rI (pc' := 26) rfl sh_216 (by decide) rfl ?_
      refine L_s (pc' := 27) rfl rfl ?_
      refine L_li fun x2 _ => ?_
      refine L_s (pc' := 28) (L' := [some (.ref 215), some (.int v1), some (.int v2), some (.int x2), some (.int v4)]) rfl rfl ?_
      refine L_ii (pc' := 31) (L' := [some (.ref 215), some (.int v1), some (.int v2), some (.int x2), some (.int (v4 + 1))]) rfl rfl q1_1 rfl rfl rfl ?_
      refine L_s (pc' := 5) rfl rfl ?_
      exact ih _ _ _ _
theorem e_m_underWay {X : Xx} {d : Nat} (hd : 2 ≤ d) (F : Nat) (v1 : Int32) (v2 : Int32) (g : Sg) : ∀ r, m_underWay F v1 v2 g = some r → EvM zft mtl X d 174 [.ref 215, .int v1, .int v2] (SHF, g) ((fun r : Int32 => ((some (.int r), (SHF, g)) : Out)) r) := by
  obtain ⟨d, rfl⟩ : ∃ d0, d = d0 + 1 := ⟨d - 1, by omega⟩
  have hd : 1 ≤ d := by omega
  refine E_in (f := (fun r : Int32 => ((some (.int r), (SHF, g)) : Out))) rfl (Nat.le_of_ble_eq_true rfl) ?_
  unfold m_underWay
  change Lt X d (some .int) k_174 _ 0 [some (.ref 215), some (.int v1), some (.int v2), none, none] [] g _
  refine L_ic (pc' := 1) rfl q1_0 rfl ?_
  refine L_s (pc' := 2) (L' := [some (.ref 215), some (.int v1), some (.int v2), some (.int 0), none]) rfl rfl ?_
  refine L_ic (pc' := 3) rfl q1_0 rfl ?_
  refine L_s (pc' := 5) (L' := [some (.ref 215), some (.int v1), some (.int v2), some (.int 0), some (.int 0)]) rfl rfl ?_
  exact p_m_underWay_5 hd F _ _ _ _
