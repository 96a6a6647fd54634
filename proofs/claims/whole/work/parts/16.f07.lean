/-! printed by wip/whole/decomp.py -/
def jI_bitCount (v0 : Int32) (g : Sg) : Option (Int32) :=
  lt1 ((v0 - ((Int32.toUInt32 v0 >>> (Int32.toUInt32 1 &&& Int32.toUInt32 31)).toInt32 &&& 1431655765)) : Int32) (fun x1 => lt1 (((x1 &&& 858993459) + ((Int32.toUInt32 x1 >>> (Int32.toUInt32 2 &&& Int32.toUInt32 31)).toInt32 &&& 858993459)) : Int32) (fun x2 => lt1 (((x2 + (Int32.toUInt32 x2 >>> (Int32.toUInt32 4 &&& Int32.toUInt32 31)).toInt32) &&& 252645135) : Int32) (fun x3 => lt1 ((x3 + (Int32.toUInt32 x3 >>> (Int32.toUInt32 8 &&& Int32.toUInt32 31)).toInt32) : Int32) (fun x4 => lt1 ((x4 + (Int32.toUInt32 x4 >>> (Int32.toUInt32 16 &&& Int32.toUInt32 31)).toInt32) : Int32) (fun x5 => (some (x5 &&& 63)))))))
theorem e_jI_bitCount {X : Xx} {d : Nat} (hd : 1 ≤ d) (v0 : Int32) (g : Sg) : ∀ r, jI_bitCount v0 g = some r → EvM zft mtl X d 231 [.int v0] (SHF, g) ((fun r : Int32 => ((some (.int r), (SHF, g)) : Out)) r) := by
  obtain ⟨d, rfl⟩ : ∃ d0, d = d0 + 1 := ⟨d - 1, by omega⟩
  have hd : 0 ≤ d := by omega
  refine E_in (f := (fun r : Int32 => ((some (.int r), (SHF, g)) : Out))) rfl (Nat.le_of_ble_eq_true rfl) ?_
  unfold jI_bitCount
  change Lt X d (some .int) k_231 _ 0 [some (.int v0)] [] g _
  refine L_s (pc' := 1) rfl rfl ?_
  refine L_s (pc' := 2) rfl rfl ?_
  refine L_ic (pc' := 3) rfl q1_1 rfl ?_
  refine L_s (pc' := 4) rfl rfl ?_
  refine L_ldw (pc' := 7) rfl q1_1431655765 rfl ?_
  refine L_s (pc' := 8) rfl rfl ?_
  refine L_s (pc' := 9) rfl rfl ?_
  refine L_li fun x1 _ => ?_
  refine L_s (pc' := 10) (L' := [some (.int x1)]) rfl rfl ?_
  refine L_s (pc' := 11) rfl rfl ?_
  refine L_ldw (pc' := 14) rfl q1_858993459 rfl ?_
  refine L_s (pc' := 15) rfl rfl ?_
  refine L_s (pc' := 16) rfl rfl ?_
  refine L_ic (pc' := 17) rfl q1_2 rfl ?_
  refine L_s (pc' := 18) rfl rfl ?_
  refine L_ldw (pc' := 21) rfl q1_858993459 rfl ?_
  refine L_s (pc' := 22) rfl rfl ?_
  refine L_s (pc' := 23) rfl rfl ?_
  refine L_li fun x2 _ => ?_
  refine L_s (pc' := 24) (L' := [some (.int x2)]) rfl rfl ?_
  refine L_s (pc' := 25) rfl rfl ?_
  refine L_s (pc' := 26) rfl rfl ?_
  refine L_ic (pc' := 27) rfl q1_4 rfl ?_
  refine L_s (pc' := 28) rfl rfl ?_
  refine L_s (pc' := 29) rfl rfl ?_
  refine L_ldw (pc' := 32) rfl q1_252645135 rfl ?_
  refine L_s (pc' := 33) rfl rfl ?_
  refine L_li fun x3 _ => ?_
  refine L_s (pc' := 34) (L' := [some (.int x3)]) rfl rfl ?_
  refine L_s (pc' := 35) rfl rfl ?_
  refine L_s (pc' := 36) rfl rfl ?_
  refine L_bi (pc' := 38) rfl q2_8 rfl ?_
  refine L_s (pc' := 39) rfl rfl ?_
  refine L_s (pc' := 40) rfl rfl ?_
  refine L_li fun x4 _ => ?_
  refine L_s (pc' := 41) (L' := [some (.int x4)]) rfl rfl ?_
  refine L_s (pc' := 42) rfl rfl ?_
  refine L_s (pc' := 43) rfl rfl ?_
  refine L_bi (pc' := 45) rfl q2_16 rfl ?_
  refine L_s (pc' := 46) rfl rfl ?_
  refine L_s (pc' := 47) rfl rfl ?_
  refine L_li fun x5 _ => ?_
  refine L_s (pc' := 48) (L' := [some (.int x5)]) rfl rfl ?_
  refine L_s (pc' := 49) rfl rfl ?_
  refine L_bi (pc' := 51) rfl q2_63 rfl ?_
  refine L_s (pc' := 52) rfl rfl ?_
  exact L_ret rfl ret_i rfl
def net_areFields_15 : Nat → Int32 → Int32 → Sg → Option (Int32)
  | 0, _, _, _ => none
  | n + 1, v1, v2, g =>
    (if 10 ≤ v2 then
      (some 1)
    else
      (if ¬ ((v1 >>> (v2 &&& 31)) &&& 1) = 1 then
        (net_areFields_15 n v1 (v2 + 1) g)
      else
        Option.bind (net_isField v2 g) (fun x1 => (if ¬ x1 = 0 then
          (net_areFields_15 n v1 (v2 + 1) g)
        else
          (some 0)))))
def net_areFields (F : Nat) (v1 : Int32) (g : Sg) : Option (Int32) :=
  (if v1 < 0 then
    (some 0)
  else
    (if v1 < 1024 then
      (net_areFields_15 F v1 0 g)
    else
      (some 0)))
theorem p_net_areFields_15 {X : Xx} {d : Nat} {g : Sg} (hd : 2 ≤ d) : ∀ (n : Nat) (v1 : Int32) (v2 : Int32), Lt X d (some .boolean) k_26 (fun r : Int32 => ((some (.int r), (SHF, g)) : Out)) 15 [some (.ref 2), some (.int v1), some (.int v2)] [] g (net_areFields_15 n v1 v2 g) := by
  intro n
  induction n with
  | zero => intros; exact L_none
  | succ n ih =>
    intro v1 v2
    show Lt X d (some .boolean) k_26 (fun r : Int32 => ((some (.int r), (SHF, g)) : Out)) 15 [some (.ref 2), some (.int v1), some (.int v2)] [] g (
      (if 10 ≤ v2 then
        (some 1)
      else
        (if ¬ ((v1 >>> (v2 &&& 31)) &&& 1) = 1 then
          (net_areFields_15 n v1 (v2 + 1) g)
        else
          Option.bind (net_isField v2 g) (fun x1 => (if ¬ x1 = 0 then
            (net_areFields_15 n v1 (v2 + 1) g)
          else
            (some 0))))))
    refine L_s (pc' := 16) rfl rfl ?_
    refine L_bi (pc' := 18) rfl q2_10 rfl ?_
    refine L_br (t := 46) (n := 21) rfl rfl (fun _ => ?_) (fun _ => ?_)
    · refine L_ic (pc' := 47) rfl q1_1 rfl ?_
      exact L_ret rfl (ret_z (by decide)) rfl
    · refine L_s (pc' := 22) rfl rfl ?_
      refine L_s (pc' := 23) rfl rfl ?_
      refine L_s (pc' := 24) rfl rfl ?_
      refine L_ic (pc' := 25) rfl q1_1 rfl ?_
      refine L_s (pc' := 26) rfl rfl ?_
      refine L_ic (pc' := 27) rfl q1_1 rfl ?_
      refine L_br (t := 40) (n := 30) rfl rfl (fun _ => ?_) (fun _ => ?_)
      · refine L_ii (pc' := 43) (L' := [some (.ref 2), some (.int v1), some (.int (v2 + 1))]) rfl rfl q1_1 rfl rfl rfl ?_
        refine L_s (pc' := 15) rfl rfl ?_
        exact ih _ _
      · refine L_s (pc' := 31) rfl rfl ?_
        refine L_s (pc' := 32) rfl rfl ?_
        refine L_ci (pc' := 35) (as := [.ref 2, .int v2]) (rest := []) rfl rfl (e_net_isField (by omega) _ _) rfl fun x1 => ?_
        refine L_br (t := 40) (n := 38) rfl rfl (fun _ => ?_) (fun _ => ?_)
        · refine L_ii (pc' := 43) (L' := [some (.ref 2), some (.int v1), some (.int (v2 + 1))]) rfl rfl q1_1 rfl rfl rfl ?_
          refine L_s (pc' := 15) rfl rfl ?_
          exact ih _ _
        · refine L_ic (pc' := 39) rfl q1_0 rfl ?_
          exact L_ret rfl (ret_z (by decide)) rfl
theorem e_net_areFields {X : Xx} {d : Nat} (hd : 3 ≤ d) (F : Nat) (v1 : Int32) (g : Sg) : ∀ r, net_areFields F v1 g = some r → EvM zft mtl X d 26 [.ref 2, .int v1] (SHF, g) ((fun r : Int32 => ((some (.int r), (SHF, g)) : Out)) r) := by
  obtain ⟨d, rfl⟩ : ∃ d0, d = d0 + 1 := ⟨d - 1, by omega⟩
  have hd : 2 ≤ d := by omega
  refine E_in (f := (fun r : Int32 => ((some (.int r), (SHF, g)) : Out))) rfl (Nat.le_of_ble_eq_true rfl) ?_
  unfold net_areFields
  change Lt X d (some .boolean) k_26 _ 0 [some (.ref 2), some (.int v1), none] [] g _
  refine L_s (pc' := 1) rfl rfl ?_
  refine L_br (t := 11) (n := 4) rfl rfl (fun _ => ?_) (fun _ => ?_)
  · refine L_ic (pc' := 12) rfl q1_0 rfl ?_
    exact L_ret rfl (ret_z (by decide)) rfl
  · refine L_s (pc' := 5) rfl rfl ?_
    refine L_si (pc' := 8) rfl q3_1024 rfl ?_
    refine L_br (t := 13) (n := 11) rfl rfl (fun _ => ?_) (fun _ => ?_)
    · refine L_ic (pc' := 14) rfl q1_0 rfl ?_
      refine L_s (pc' := 15) (L' := [some (.ref 2), some (.int v1), some (.int 0)]) rfl rfl ?_
      exact p_net_areFields_15 hd F _ _
    · refine L_ic (pc' := 12) rfl q1_0 rfl ?_
      exact L_ret rfl (ret_z (by decide)) rfl
def turns_listMembers_7 : Nat → Int32 → Sg → Option (Sg)
  | 0, _, _ => none
  | n + 1, v1, g =>
    (if 10 ≤ v1 then
      (some g)
    else
      (if 4 ≤ (g 208 7) then
        (some g)
      else
        (if ¬ (((g 208 3) >>> (v1 &&& 31)) &&& 1) = 1 then
          (turns_listMembers_7 n (v1 + 1) g)
        else
          (if inb (g 208 7) 4 = true then lt1 (up2 g 209 (Int32.toNatClampNeg (g 208 7)) v1) (fun g1 => lt1 (up2 g1 208 7 ((g1 208 7) + 1)) (fun g2 => (turns_listMembers_7 n (v1 + 1) g2))) else none))))
def turns_listMembers (F : Nat)  (g : Sg) : Option (Sg) :=
  lt1 (up2 g 208 7 0) (fun g1 => (turns_listMembers_7 F 0 g1))
theorem p_turns_listMembers_7 {X : Xx} {d : Nat} (hd : 0 ≤ d) : ∀ (n : Nat) (v1 : Int32) (g : Sg), Lt X d none k_92 (fun r : Sg => ((none, (SHF, r)) : Out)) 7 [some (.ref 208), some (.int v1)] [] g (turns_listMembers_7 n v1 g) := by
  intro n
  induction n with
  | zero => intros; exact L_none
  | succ n ih =>
    intro v1 g
    show Lt X d none k_92 (fun r : Sg => ((none, (SHF, r)) : Out)) 7 [some (.ref 208), some (.int v1)] [] g (
      (if 10 ≤ v1 then
        (some g)
      else
        (if 4 ≤ (g 208 7) then
          (some g)
        else
          (if ¬ (((g 208 3) >>> (v1 &&& 31)) &&& 1) = 1 then
            (turns_listMembers_7 n (v1 + 1) g)
          else
            (if inb (g 208 7) 4 = true then lt1 (up2 g 209 (Int32.toNatClampNeg (g 208 7)) v1) (fun g1 => lt1 (up2 g1 208 7 ((g1 208 7) + 1)) (fun g2 => (turns_listMembers_7 n (v1 + 1) g2))) else none)))))
    refine L_s (pc' := 8) rfl rfl ?_
    refine L_bi (pc' := 10) rfl q2_10 rfl ?_
    refine L_br (t := 59) (n := 13) rfl rfl (fun _ => ?_) (fun _ => ?_)
    · exact L_ret rfl rfl rfl
    · refine L_s (pc' := 14) rfl rfl ?_
      refine L_gf (pc' := 17) rfl fi_208_7 rfl ?_
      refine L_ic (pc' := 18) rfl q1_4 rfl ?_
      refine L_br (t := 59) (n := 21) rfl rfl (fun _ => ?_) (fun _ => ?_)
      · exact L_ret rfl rfl rfl
      · refine L_s (pc' := 22) rfl rfl ?_
        refine L_gf (pc' := 25) rfl fi_208_3 rfl ?_
        refine L_s (pc' := 26) rfl rfl ?_
        refine L_s (pc' := 27) rfl rfl ?_
        refine L_ic (pc' := 28) rfl q1_1 rfl ?_
        refine L_s (pc' := 29) rfl rfl ?_
        refine L_ic (pc' := 30) rfl q1_1 rfl ?_
        refine L_br (t := 53) (n := 33) rfl rfl (fun _ => ?_) (fun _ => ?_)
        · refine L_ii (pc' := 56) (L' := [some (.ref 208), some (.int (v1 + 1))]) rfl rfl q1_1 rfl rfl rfl ?_
          refine L_s (pc' := 7) rfl rfl ?_
          exact ih _ _
        · refine L_s (pc' := 34) rfl rfl ?_
          refine L_gf (pc' := 37) rfl fr_208_8 rfl ?_
          refine L_s (pc' := 38) rfl rfl ?_
          refine L_gf (pc' := 41) rfl fi_208_7 rfl ?_
          refine L_s (pc' := 42) rfl rfl ?_
          refine L_wI (pc' := 43) rfl sh_209 (by decide) rfl ?_
          refine L_let fun g1 _ => ?_
          refine L_s (pc' := 44) rfl rfl ?_
          refine L_s (pc' := 45) rfl rfl ?_
          refine L_gf (pc' := 48) rfl fi_208_7 rfl ?_
          refine L_ic (pc' := 49) rfl q1_1 rfl ?_
          refine L_s (pc' := 50) rfl rfl ?_
          refine L_pf (pc' := 53) rfl sh_208 (by decide) rfl rfl ?_
          refine L_let fun g2 _ => ?_
          refine L_ii (pc' := 56) (L' := [some (.ref 208), some (.int (v1 + 1))]) rfl rfl q1_1 rfl rfl rfl ?_
          refine L_s (pc' := 7) rfl rfl ?_
          exact ih _ _
theorem e_turns_listMembers {X : Xx} {d : Nat} (hd : 1 ≤ d) (F : Nat)  (g : Sg) : ∀ r, turns_listMembers F  g = some r → EvM zft mtl X d 92 [.ref 208] (SHF, g) ((fun r : Sg => ((none, (SHF, r)) : Out)) r) := by
  obtain ⟨d, rfl⟩ : ∃ d0, d = d0 + 1 := ⟨d - 1, by omega⟩
  have hd : 0 ≤ d := by omega
  refine E_in (f := (fun r : Sg => ((none, (SHF, r)) : Out))) rfl (Nat.le_of_ble_eq_true rfl) ?_
  unfold turns_listMembers
  change Lt X d none k_92 _ 0 [some (.ref 208), none] [] g _
  refine L_s (pc' := 1) rfl rfl ?_
  refine L_ic (pc' := 2) rfl q1_0 rfl ?_
  refine L_pf (pc' := 5) rfl sh_208 (by decide) rfl rfl ?_
  refine L_let fun g1 _ => ?_
  refine L_ic (pc' := 6) rfl q1_0 rfl ?_
  refine L_s (pc' := 7) (L' := [some (.ref 208), some (.int 0)]) rfl rfl ?_
  exact p_turns_listMembers_7 hd F _ _
def jA_fill_c5_5 : Nat → Int32 → Int32 → Sg → Option (Sg)
  | 0, _, _, _ => none
  | n + 1, v1, v2, g =>
    (if 4 ≤ v2 then
      (some g)
    else
      (if inb v2 4 = true then lt1 (up2 g 212 (Int32.toNatClampNeg v2) v1) (fun g1 => (jA_fill_c5_5 n v1 (v2 + 1) g1)) else none))
def jA_fill_c5 (F : Nat) (v1 : Int32) (g : Sg) : Option (Sg) :=
  (jA_fill_c5_5 F v1 0 g)
theorem p_jA_fill_c5_5 {X : Xx} {d : Nat} (hd : 0 ≤ d) : ∀ (n : Nat) (v1 : Int32) (v2 : Int32) (g : Sg), Lt X d none k_238 (fun r : Sg => ((none, (SHF, r)) : Out)) 5 [some (.ref 212), some (.int v1), some (.int v2), some (.int 4)] [] g (jA_fill_c5_5 n v1 v2 g) := by
  intro n
  induction n with
  | zero => intros; exact L_none
  | succ n ih =>
    intro v1 v2 g
    show Lt X d none k_238 (fun r : Sg => ((none, (SHF, r)) : Out)) 5 [some (.ref 212), some (.int v1), some (.int v2), some (.int 4)] [] g (
      (if 4 ≤ v2 then
        (some g)
      else
        (if inb v2 4 = true then lt1 (up2 g 212 (Int32.toNatClampNeg v2) v1) (fun g1 => (jA_fill_c5_5 n v1 (v2 + 1) g1)) else none)))
    refine L_s (pc' := 6) rfl rfl ?_
    refine L_s (pc' := 7) rfl rfl ?_
    refine L_br (t := 20) (n := 10) rfl rfl (fun _ => ?_) (fun _ => ?_)
    · exact L_ret rfl rfl rfl
    · refine L_s (pc' := 11) rfl rfl ?_
      refine L_s (pc' := 12) rfl rfl ?_
      refine L_s (pc' := 13) rfl rfl ?_
      refine L_wI (pc' := 14) rfl sh_212 (by decide) rfl ?_
      refine L_let fun g1 _ => ?_
      refine L_ii (pc' := 17) (L' := [some (.ref 212), some (.int v1), some (.int (v2 + 1)), some (.int 4)]) rfl rfl q1_1 rfl rfl rfl ?_
      refine L_s (pc' := 5) rfl rfl ?_
      exact ih _ _ _
theorem e_jA_fill_c5 {X : Xx} {d : Nat} (hd : 1 ≤ d) (F : Nat) (v1 : Int32) (g : Sg) : ∀ r, jA_fill_c5 F v1 g = some r → EvM zft mtl X d 238 [.ref 212, .int v1] (SHF, g) ((fun r : Sg => ((none, (SHF, r)) : Out)) r) := by
  obtain ⟨d, rfl⟩ : ∃ d0, d = d0 + 1 := ⟨d - 1, by omega⟩
  have hd : 0 ≤ d := by omega
  refine E_in (f := (fun r : Sg => ((none, (SHF, r)) : Out))) rfl (Nat.le_of_ble_eq_true rfl) ?_
  unfold jA_fill_c5
  change Lt X d none k_238 _ 0 [some (.ref 212), some (.int v1), none, none] [] g _
  refine L_ic (pc' := 1) rfl q1_0 rfl ?_
  refine L_s (pc' := 2) (L' := [some (.ref 212), some (.int v1), some (.int 0), none]) rfl rfl ?_
  refine L_s (pc' := 3) rfl rfl ?_
  refine L_s (pc' := 4) (st' := [.int 4]) rfl rfl ?_
  refine L_s (pc' := 5) (L' := [some (.ref 212), some (.int v1), some (.int 0), some (.int 4)]) rfl rfl ?_
  exact p_jA_fill_c5_5 hd F _ _ _
def jA_fill_c6_5 : Nat → Int32 → Int32 → Sg → Option (Sg)
  | 0, _, _, _ => none
  | n + 1, v1, v2, g =>
    (if 4 ≤ v2 then
      (some g)
    else
      (if inb v2 4 = true then lt1 (up2 g 213 (Int32.toNatClampNeg v2) v1) (fun g1 => (jA_fill_c6_5 n v1 (v2 + 1) g1)) else none))
def jA_fill_c6 (F : Nat) (v1 : Int32) (g : Sg) : Option (Sg) :=
  (jA_fill_c6_5 F v1 0 g)
theorem p_jA_fill_c6_5 {X : Xx} {d : Nat} (hd : 0 ≤ d) : ∀ (n : Nat) (v1 : Int32) (v2 : Int32) (g : Sg), Lt X d none k_238 (fun r : Sg => ((none, (SHF, r)) : Out)) 5 [some (.ref 213), some (.int v1), some (.int v2), some (.int 4)] [] g (jA_fill_c6_5 n v1 v2 g) := by
  intro n
  induction n with
  | zero => intros; exact L_none
  | succ n ih =>
    intro v1 v2 g
    show Lt X d none k_238 (fun r : Sg => ((none, (SHF, r)) : Out)) 5 [some (.ref 213), some (.int v1), some (.int v2), some (.int 4)] [] g (
      (if 4 ≤ v2 then
        (some g)
      else
        (if inb v2 4 = true then lt1 (up2 g 213 (Int32.toNatClampNeg v2) v1) (fun g1 => (jA_fill_c6_5 n v1 (v2 + 1) g1)) else none)))
    refine L_s (pc' := 6) rfl rfl ?_
    refine L_s (pc' := 7) rfl rfl ?_
    refine L_br (t := 20) (n := 10) rfl rfl (fun _ => ?_) (fun _ => ?_)
    · exact L_ret rfl rfl rfl
    · refine L_s (pc' := 11) rfl rfl ?_
      refine L_s (pc' := 12) rfl rfl ?_
      refine L_s (pc' := 13) rfl rfl ?_
      refine L_wI (pc' := 14) rfl sh_213 (by decide) rfl ?_
      refine L_let fun g1 _ => ?_
      refine L_ii (pc' := 17) (L' := [some (.ref 213), some (.int v1), some (.int (v2 + 1)), some (.int 4)]) rfl rfl q1_1 rfl rfl rfl ?_
      refine L_s (pc' := 5) rfl rfl ?_
      exact ih _ _ _
theorem e_jA_fill_c6 {X : Xx} {d : Nat} (hd : 1 ≤ d) (F : Nat) (v1 : Int32) (g : Sg) : ∀ r, jA_fill_c6 F v1 g = some r → EvM zft mtl X d 238 [.ref 213, .int v1] (SHF, g) ((fun r : Sg => ((none, (SHF, r)) : Out)) r) := by
  obtain ⟨d, rfl⟩ : ∃ d0, d = d0 + 1 := ⟨d - 1, by omega⟩
  have hd : 0 ≤ d := by omega
  refine E_in (f := (fun r : Sg => ((none, (SHF, r)) : Out))) rfl (Nat.le_of_ble_eq_true rfl) ?_
  unfold jA_fill_c6
  change Lt X d none k_238 _ 0 [some (.ref 213), some (.int v1), none, none] [] g _
  refine L_ic (pc' := 1) rfl q1_0 rfl ?_
  refine L_s (pc' := 2) (L' := [some (.ref 213), some (.int v1), some (.int 0), none]) rfl rfl ?_
  refine L_s (pc' := 3) rfl rfl ?_
  refine L_s (pc' := 4) (st' := [.int 4]) rfl rfl ?_
  refine L_s (pc' := 5) (L' := [some (.ref 213), some (.int v1), some (.int 0), some (.int 4)]) rfl rfl ?_
  exact p_jA_fill_c6_5 hd F _ _ _
def jA_fill_c7_5 : Nat → Int32 → Int32 → Sg → Option (Sg)
  | 0, _, _, _ => none
  | n + 1, v1, v2, g =>
    (if 4 ≤ v2 then
      (some g)
    else
      (if inb v2 4 = true then lt1 (up2 g 214 (Int32.toNatClampNeg v2) v1) (fun g1 => (jA_fill_c7_5 n v1 (v2 + 1) g1)) else none))
def jA_fill_c7 (F : Nat) (v1 : Int32) (g : Sg) : Option (Sg) :=
  (jA_fill_c7_5 F v1 0 g)
theorem p_jA_fill_c7_5 {X : Xx} {d : Nat} (hd : 0 ≤ d) : ∀ (n : Nat) (v1 : Int32) (v2 : Int32) (g : Sg), Lt X d none k_238 (fun r : Sg => ((none, (SHF, r)) : Out)) 5 [some (.ref 214), some (.int v1), some (.int v2), some (.int 4)] [] g (jA_fill_c7_5 n v1 v2 g) := by
  intro n
  induction n with
  | zero => intros; exact L_none
  | succ n ih =>
    intro v1 v2 g
    show Lt X d none k_238 (fun r : Sg => ((none, (SHF, r)) : Out)) 5 [some (.ref 214), some (.int v1), some (.int v2), some (.int 4)] [] g (
      (if 4 ≤ v2 then
        (some g)
      else
        (if inb v2 4 = true then lt1 (up2 g 214 (Int32.toNatClampNeg v2) v1) (fun g1 => (jA_fill_c7_5 n v1 (v2 + 1) g1)) else none)))
    refine L_s (pc' := 6) rfl rfl ?_
    refine L_s (pc' := 7) rfl rfl ?_
    refine L_br (t := 20) (n := 10) rfl rfl (fun _ => ?_) (fun _ => ?_)
    · exact L_ret rfl rfl rfl
    · refine L_s (pc' := 11) rfl rfl ?_
      refine L_s (pc' := 12) rfl rfl ?_
      refine L_s (pc' := 13) rfl rfl ?_
      refine L_wI (pc' := 14) rfl sh_214 (by decide) rfl ?_
      refine L_let fun g1 _ => ?_
      refine L_ii (pc' := 17) (L' := [some (.ref 214), some (.int v1), some (.int (v2 + 1)), some (.int 4)]) rfl rfl q1_1 rfl rfl rfl ?_
      refine L_s (pc' := 5) rfl rfl ?_
      exact ih _ _ _
theorem e_jA_fill_c7 {X : Xx} {d : Nat} (hd : 1 ≤ d) (F : Nat) (v1 : Int32) (g : Sg) : ∀ r, jA_fill_c7 F v1 g = some r → EvM zft mtl X d 238 [.ref 214, .int v1] (SHF, g) ((fun r : Sg => ((none, (SHF, r)) : Out)) r) := by
  obtain ⟨d, rfl⟩ : ∃ d0, d = d0 + 1 := ⟨d - 1, by omega⟩
  have hd : 0 ≤ d := by omega
  refine E_in (f := (fun r : Sg => ((none, (SHF, r)) : Out))) rfl (Nat.le_of_ble_eq_true rfl) ?_
  unfold jA_fill_c7
  change Lt X d none k_238 _ 0 [some (.ref 214), some (.int v1), none, none] [] g _
  refine L_ic (pc' := 1) rfl q1_0 rfl ?_
  refine L_s (pc' := 2) (L' := [some (.ref 214), some (.int v1), some (.int 0), none]) rfl rfl ?_
  refine L_s (pc' := 3) rfl rfl ?_
  refine L_s (pc' := 4) (st' := [.int 4]) rfl rfl ?_
  refine L_s (pc' := 5) (L' := [some (.ref 214), some (.int v1), some (.int 0), some (.int 4)]) rfl rfl ?_
  exact p_jA_fill_c7_5 hd F _ _ _
def x_copyInts_c6  (g : Sg) : Option (Sg) :=
  lt1 (cp2 g 210 0 211 0 (Int32.toNatClampNeg 8)) (fun g1 => (some g1))
theorem e_x_copyInts_c6 {X : Xx} {d : Nat} (hd : 1 ≤ d)  (g : Sg) : ∀ r, x_copyInts_c6  g = some r → EvM zft mtl X d 145 [.ref 210, .ref 211] (SHF, g) ((fun r : Sg => ((none, (SHF, r)) : Out)) r) := by
  obtain ⟨d, rfl⟩ : ∃ d0, d = d0 + 1 := ⟨d - 1, by omega⟩
  have hd : 0 ≤ d := by omega
  refine E_in (f := (fun r : Sg => ((none, (SHF, r)) : Out))) rfl (Nat.le_of_ble_eq_true rfl) ?_
  unfold x_copyInts_c6
  change Lt X d none k_145 _ 0 [some (.ref 210), some (.ref 211)] [] g _
  refine L_s (pc' := 1) rfl rfl ?_
  refine L_ic (pc' := 2) rfl q1_0 rfl ?_
  refine L_s (pc' := 3) rfl rfl ?_
  refine L_ic (pc' := 4) rfl q1_0 rfl ?_
  refine L_s (pc' := 5) rfl rfl ?_
  refine L_s (pc' := 6) (st' := [.int 8, .int 0, .ref 211, .int 0, .ref 210]) rfl rfl ?_
  refine L_s (pc' := 7) rfl rfl ?_
  refine L_s (pc' := 8) (st' := [.int 8, .int 8, .int 0, .ref 211, .int 0, .ref 210]) rfl rfl ?_
  refine L_s (pc' := 11) rfl rfl ?_
  refine L_e (b := 8) (by decide) ?_
  refine L_cp (pc' := 14) rfl sh_210 sh_211 (by decide) (by decide) (by decide) (by decide) rfl rfl ?_
  refine L_let fun g1 _ => ?_
  exact L_ret rfl rfl rfl
def turns_keep_9 : Nat → Int32 → Int32 → Int32 → Int32 → Int32 → Sg → Option (Sg)
  | 0, _, _, _, _, _, _ => none
  | n + 1, v1, v2, v3, v4, v5, g =>
    (if (g 208 7) ≤ v5 then
      (if 1 < (v4 - v3) then
        (some g)
      else
        lt1 (up2 g 208 6 1) (fun g1 => lt1 (up2 g1 208 0 v1) (fun g2 => lt1 (up2 g2 208 1 v2) (fun g3 => Option.bind (x_copyInts_c6 g3) (fun g4 => (some g4))))))
    else
      (if inb v5 4 = true then lt1 ((if (g 213 (Int32.toNatClampNeg v5)) < v3 then (g 213 (Int32.toNatClampNeg v5)) else v3) : Int32) (fun x5 => (if inb v5 4 = true then lt1 ((if v4 < (g 213 (Int32.toNatClampNeg v5)) then (g 213 (Int32.toNatClampNeg v5)) else v4) : Int32) (fun x6 => (turns_keep_9 n v1 v2 x5 x6 (v5 + 1) g)) else none)) else none))
def turns_keep (F : Nat) (v1 : Int32) (v2 : Int32) (g : Sg) : Option (Sg) :=
  (turns_keep_9 F v1 v2 8 0 0 g)
theorem p_turns_keep_9 {X : Xx} {d : Nat} (hd : 1 ≤ d) : ∀ (n : Nat) (v1 : Int32) (v2 : Int32) (v3 : Int32) (v4 : Int32) (v5 : Int32) (g : Sg), Lt X d none k_98 (fun r : Sg => ((none, (SHF, r)) : Out)) 9 [some (.ref 208), some (.int v1), some (.int v2), some (.int v3), some (.int v4), some (.int v5)] [] g (turns_keep_9 n v1 v2 v3 v4 v5 g) := by
  intro n
  induction n with
  | zero => intros; exact L_none
  | succ n ih =>
    intro v1 v2 v3 v4 v5 g
    show Lt X d none k_98 (fun r : Sg => ((none, (SHF, r)) : Out)) 9 [some (.ref 208), some (.int v1), some (.int v2), some (.int v3), some (.int v4), some (.int v5)] [] g (
      (if (g 208 7) ≤ v5 then
        (if 1 < (v4 - v3) then
          (some g)
        else
          lt1 (up2 g 208 6 1) (fun g1 => lt1 (up2 g1 208 0 v1) (fun g2 => lt1 (up2 g2 208 1 v2) (fun g3 => Option.bind (x_copyInts_c6 g3) (fun g4 => (some g4))))))
      else
        (if inb v5 4 = true then lt1 ((if (g 213 (Int32.toNatClampNeg v5)) < v3 then (g 213 (Int32.toNatClampNeg v5)) else v3) : Int32) (fun x5 => (if inb v5 4 = true then lt1 ((if v4 < (g 213 (Int32.toNatClampNeg v5)) then (g 213 (Int32.toNatClampNeg v5)) else v4) : Int32) (fun x6 => (turns_keep_9 n v1 v2 x5 x6 (v5 + 1) g)) else none)) else none)))
    refine L_s (pc' := 11) rfl rfl ?_
    refine L_s (pc' := 12) rfl rfl ?_
    refine L_gf (pc' := 15) rfl fi_208_7 rfl ?_
    refine L_br (t := 50) (n := 18) rfl rfl (fun _ => ?_) (fun _ => ?_)
    · refine L_s (pc' := 52) rfl rfl ?_
      refine L_s (pc' := 53) rfl rfl ?_
      refine L_s (pc' := 54) rfl rfl ?_
      refine L_ic (pc' := 55) rfl q1_1 rfl ?_
      refine L_br (t := 84) (n := 58) rfl rfl (fun _ => ?_) (fun _ => ?_)
      · exact L_ret rfl rfl rfl
      · refine L_s (pc' := 59) rfl rfl ?_
        refine L_ic (pc' := 60) rfl q1_1 rfl ?_
        refine L_pz (pc' := 63) rfl sh_208 (by decide) rfl (by decide) rfl ?_
        refine L_let fun g1 _ => ?_
        refine L_s (pc' := 64) rfl rfl ?_
        refine L_s (pc' := 65) rfl rfl ?_
        refine L_pf (pc' := 68) rfl sh_208 (by decide) rfl rfl ?_
        refine L_let fun g2 _ => ?_
        refine L_s (pc' := 69) rfl rfl ?_
        refine L_s (pc' := 70) rfl rfl ?_
        refine L_pf (pc' := 73) rfl sh_208 (by decide) rfl rfl ?_
        refine L_let fun g3 _ => ?_
        refine L_s (pc' := 74) rfl rfl ?_
        refine L_gf (pc' := 77) rfl fr_208_9 rfl ?_
        refine L_s (pc' := 78) rfl rfl ?_
        refine L_gf (pc' := 81) rfl fr_208_10 rfl ?_
        refine L_cv (pc' := 84) (as := [.ref 210, .ref 211]) (rest := []) rfl rfl (e_x_copyInts_c6 (by omega) _) rfl fun g4 => ?_
        exact L_ret rfl rfl rfl
    · refine L_s (pc' := 19) rfl rfl ?_
      refine L_s (pc' := 20) rfl rfl ?_
      refine L_gf (pc' := 23) rfl fr_208_12 rfl ?_
      refine L_s (pc' := 25) rfl rfl ?_
      refine L_rI (pc' := 26) rfl sh_213 (by decide) rfl ?_
      refine L_s (pc' := 29) rfl rfl ?_
      refine L_li fun x5 _ => ?_
      refine L_s (pc' := 30) (L' := [some (.ref 208), some (.int v1), some (.int v2), some (.int x5), some (.int v4), some (.int v5)]) rfl rfl ?_
      refine L_s (pc' := 32) rfl rfl ?_
      refine L_s (pc' := 33) rfl rfl ?_
      refine L_gf (pc' := 36) rfl fr_208_12 rfl ?_
      refine L_s (pc' := 38) rfl rfl ?_
      refine L_rI (pc' := 39) rfl sh_213 (by decide) rfl ?_
      refine L_s (pc' := 42) rfl rfl ?_
      refine L_li fun x6 _ => ?_
      refine L_s (pc' := 44) (L' := [some (.ref 208), some (.int v1), some (.int v2), some (.int x5), some (.int x6), some (.int v5)]) rfl rfl ?_
      refine L_ii (pc' := 47) (L' := [some (.ref 208), some (.int v1), some (.int v2), some (.int x5), some (.int x6), some (.int (v5 + 1))]) rfl rfl q1_1 rfl rfl rfl ?_
      refine L_s (pc' := 9) rfl rfl ?_
      exact ih _ _ _ _ _ _
theorem e_turns_keep {X : Xx} {d : Nat} (hd : 2 ≤ d) (F : Nat) (v1 : Int32) (v2 : Int32) (g : Sg) : ∀ r, turns_keep F v1 v2 g = some r → EvM zft mtl X d 98 [.ref 208, .int v1, .int v2] (SHF, g) ((fun r : Sg => ((none, (SHF, r)) : Out)) r) := by
  obtain ⟨d, rfl⟩ : ∃ d0, d = d0 + 1 := ⟨d - 1, by omega⟩
  have hd : 1 ≤ d := by omega
  refine E_in (f := (fun r : Sg => ((none, (SHF, r)) : Out))) rfl (Nat.le_of_ble_eq_true rfl) ?_
  unfold turns_keep
  change Lt X d none k_98 _ 0 [some (.ref 208), some (.int v1), some (.int v2), none, none, none] [] g _
  refine L_bi (pc' := 2) rfl q2_8 rfl ?_
  refine L_s (pc' := 3) (L' := [some (.ref 208), some (.int v1), some (.int v2), some (.int 8), none, none]) rfl rfl ?_
  refine L_ic (pc' := 4) rfl q1_0 rfl ?_
  refine L_s (pc' := 6) (L' := [some (.ref 208), some (.int v1), some (.int v2), some (.int 8), some (.int 0), none]) rfl rfl ?_
  refine L_ic (pc' := 7) rfl q1_0 rfl ?_
  refine L_s (pc' := 9) (L' := [some (.ref 208), some (.int v1), some (.int v2), some (.int 8), some (.int 0), some (.int 0)]) rfl rfl ?_
  exact p_turns_keep_9 hd F _ _ _ _ _ _
def turns_canBeBetter (v1 : Int32) (v2 : Int32) (v3 : Int32) (g : Sg) : Option (Int32) :=
  (if (g 208 6) = 0 then
    (some 1)
  else
    (if (g 208 0) ≤ v2 then
      (if ¬ v2 = (g 208 0) then
        (some 0)
      else
        (if (((v3 + (g 208 2)) - 1) - v1) ≤ (g 208 1) then
          (some 0)
        else
          (some 1)))
    else
      (some 1)))
theorem e_turns_canBeBetter {X : Xx} {d : Nat} (hd : 1 ≤ d) (v1 : Int32) (v2 : Int32) (v3 : Int32) (g : Sg) : ∀ r, turns_canBeBetter v1 v2 v3 g = some r → EvM zft mtl X d 94 [.ref 208, .int v1, .int v2, .int v3] (SHF, g) ((fun r : Int32 => ((some (.int r), (SHF, g)) : Out)) r) := by
  obtain ⟨d, rfl⟩ : ∃ d0, d = d0 + 1 := ⟨d - 1, by omega⟩
  have hd : 0 ≤ d := by omega
  refine E_in (f := (fun r : Int32 => ((some (.int r), (SHF, g)) : Out))) rfl (Nat.le_of_ble_eq_true rfl) ?_
  unfold turns_canBeBetter
  change Lt X d (some .boolean) k_94 _ 0 [some (.ref 208), some (.int v1), some (.int v2), some (.int v3)] [] g _
  refine L_s (pc' := 1) rfl rfl ?_
  refine L_gf (pc' := 4) rfl fi_208_6 rfl ?_
  refine L_br (t := 15) (n := 7) rfl rfl (fun _ => ?_) (fun _ => ?_)
  · refine L_ic (pc' := 16) rfl q1_1 rfl ?_
    exact L_ret rfl (ret_z (by decide)) rfl
  · refine L_s (pc' := 8) rfl rfl ?_
    refine L_s (pc' := 9) rfl rfl ?_
    refine L_gf (pc' := 12) rfl fi_208_0 rfl ?_
    refine L_br (t := 17) (n := 15) rfl rfl (fun _ => ?_) (fun _ => ?_)
    · refine L_s (pc' := 18) rfl rfl ?_
      refine L_s (pc' := 19) rfl rfl ?_
      refine L_gf (pc' := 22) rfl fi_208_0 rfl ?_
      refine L_br (t := 46) (n := 25) rfl rfl (fun _ => ?_) (fun _ => ?_)
      · refine L_ic (pc' := 47) rfl q1_0 rfl ?_
        exact L_ret rfl (ret_z (by decide)) rfl
      · refine L_s (pc' := 26) rfl rfl ?_
        refine L_s (pc' := 27) rfl rfl ?_
        refine L_gf (pc' := 30) rfl fi_208_2 rfl ?_
        refine L_s (pc' := 31) rfl rfl ?_
        refine L_ic (pc' := 32) rfl q1_1 rfl ?_
        refine L_s (pc' := 33) rfl rfl ?_
        refine L_s (pc' := 34) rfl rfl ?_
        refine L_s (pc' := 35) rfl rfl ?_
        refine L_s (pc' := 36) rfl rfl ?_
        refine L_gf (pc' := 39) rfl fi_208_1 rfl ?_
        refine L_br (t := 46) (n := 42) rfl rfl (fun _ => ?_) (fun _ => ?_)
        · refine L_ic (pc' := 47) rfl q1_0 rfl ?_
          exact L_ret rfl (ret_z (by decide)) rfl
        · refine L_ic (pc' := 43) rfl q1_1 rfl ?_
          refine L_s (pc' := 47) rfl rfl ?_
          exact L_ret rfl (ret_z (by decide)) rfl
    · refine L_ic (pc' := 16) rfl q1_1 rfl ?_
      exact L_ret rfl (ret_z (by decide)) rfl
def turns_put (v1 : Int32) (v2 : Int32) (g : Sg) : Option (Int32 × Sg) :=
  (if inb v1 8 = true then lt1 (up2 g 210 (Int32.toNatClampNeg v1) v2) (fun g1 => Option.bind (x_within v2 0 ((g1 208 7) - 1) g1) (fun x2 => (if ¬ x2 = 0 then
    (if inb v2 4 = true then lt1 ((g1 214 (Int32.toNatClampNeg v2)) : Int32) (fun x3 => (if inb v2 4 = true then lt1 (up2 g1 214 (Int32.toNatClampNeg v2) v1) (fun g4 => (if inb v2 4 = true then (if inb v2 4 = true then lt1 (up2 g4 212 (Int32.toNatClampNeg v2) ((g4 212 (Int32.toNatClampNeg v2)) + 1)) (fun g5 => (if inb v2 4 = true then (if inb v2 4 = true then lt1 (up2 g5 213 (Int32.toNatClampNeg v2) ((g5 213 (Int32.toNatClampNeg v2)) + (v1 - v1 / 2 * 2))) (fun g6 => (some (x3, g6))) else none) else none)) else none) else none)) else none)) else none)
  else
    (some ((-1), g1))))) else none)
theorem e_turns_put {X : Xx} {d : Nat} (hd : 2 ≤ d) (v1 : Int32) (v2 : Int32) (g : Sg) : ∀ r, turns_put v1 v2 g = some r → EvM zft mtl X d 95 [.ref 208, .int v1, .int v2] (SHF, g) ((fun r : Int32 × Sg => ((some (.int r.1), (SHF, r.2)) : Out)) r) := by
  obtain ⟨d, rfl⟩ : ∃ d0, d = d0 + 1 := ⟨d - 1, by omega⟩
  have hd : 1 ≤ d := by omega
  refine E_in (f := (fun r : Int32 × Sg => ((some (.int r.1), (SHF, r.2)) : Out))) rfl (Nat.le_of_ble_eq_true rfl) ?_
  unfold turns_put
  change Lt X d (some .int) k_95 _ 0 [some (.ref 208), some (.int v1), some (.int v2), none] [] g _
  refine L_s (pc' := 1) rfl rfl ?_
  refine L_gf (pc' := 4) rfl fr_208_9 rfl ?_
  refine L_s (pc' := 5) rfl rfl ?_
  refine L_s (pc' := 6) rfl rfl ?_
  refine L_wI (pc' := 7) rfl sh_210 (by decide) rfl ?_
  refine L_let fun g1 _ => ?_
  refine L_s (pc' := 8) rfl rfl ?_
  refine L_ic (pc' := 9) rfl q1_0 rfl ?_
  refine L_s (pc' := 10) rfl rfl ?_
  refine L_gf (pc' := 13) rfl fi_208_7 rfl ?_
  refine L_ic (pc' := 14) rfl q1_1 rfl ?_
  refine L_s (pc' := 15) rfl rfl ?_
  refine L_ci (pc' := 18) (as := [.int v2, .int 0, .int ((g1 208 7) - 1)]) (rest := []) rfl rfl (e_x_within (by omega) _ _ _ _) rfl fun x2 => ?_
  refine L_br (t := 23) (n := 21) rfl rfl (fun _ => ?_) (fun _ => ?_)
  · refine L_s (pc' := 24) rfl rfl ?_
    refine L_gf (pc' := 27) rfl fr_208_13 rfl ?_
    refine L_s (pc' := 28) rfl rfl ?_
    refine L_rI (pc' := 29) rfl sh_214 (by decide) rfl ?_
    refine L_li fun x3 _ => ?_
    refine L_s (pc' := 30) (L' := [some (.ref 208), some (.int v1), some (.int v2), some (.int x3)]) rfl rfl ?_
    refine L_s (pc' := 31) rfl rfl ?_
    refine L_gf (pc' := 34) rfl fr_208_13 rfl ?_
    refine L_s (pc' := 35) rfl rfl ?_
    refine L_s (pc' := 36) rfl rfl ?_
    refine L_wI (pc' := 37) rfl sh_214 (by decide) rfl ?_
    refine L_let fun g4 _ => ?_
    refine L_s (pc' := 38) rfl rfl ?_
    refine L_gf (pc' := 41) rfl fr_208_11 rfl ?_
    refine L_s (pc' := 42) rfl rfl ?_
    refine L_s (pc' := 43) rfl rfl ?_
    refine L_rI (pc' := 44) rfl sh_212 (by decide) rfl ?_
    refine L_ic (pc' := 45) rfl q1_1 rfl ?_
    refine L_s (pc' := 46) rfl rfl ?_
    refine L_wI (pc' := 47) rfl sh_212 (by decide) rfl ?_
    refine L_let fun g5 _ => ?_
    refine L_s (pc' := 48) rfl rfl ?_
    refine L_gf (pc' := 51) rfl fr_208_12 rfl ?_
    refine L_s (pc' := 52) rfl rfl ?_
    refine L_s (pc' := 53) rfl rfl ?_
    refine L_rI (pc' := 54) rfl sh_213 (by decide) rfl ?_
    refine L_s (pc' := 55) rfl rfl ?_
    refine L_ic (pc' := 56) rfl q1_2 rfl ?_
    refine L_rmk (pc' := 57) rfl (by decide) rfl ?_
    refine L_s (pc' := 58) rfl rfl ?_
    refine L_wI (pc' := 59) rfl sh_213 (by decide) rfl ?_
    refine L_let fun g6 _ => ?_
    refine L_s (pc' := 60) rfl rfl ?_
    exact L_ret rfl ret_i rfl
  · refine L_ic (pc' := 22) rfl q1_m1 rfl ?_
    exact L_ret rfl ret_i rfl
def turns_standsUpTo_4 : Nat → Int32 → Int32 → Int32 → Sg → Option (Int32)
  | 0, _, _, _, _ => none
  | n + 1, v1, v2, v3, g =>
    (if (g 208 7) ≤ v3 then
      (if (((g 208 2) - 1) - v1) < v2 then
        (some 0)
      else
        (some 1))
    else
      (if inb v3 4 = true then (if (v1 - (g 214 (Int32.toNatClampNeg v3))) ≤ (g 208 5) then
        (if inb v3 4 = true then lt1 ((v2 + (if 0 < ((g 208 4) - (g 212 (Int32.toNatClampNeg v3))) then ((g 208 4) - (g 212 (Int32.toNatClampNeg v3))) else 0)) : Int32) (fun x1 => (turns_standsUpTo_4 n v1 x1 (v3 + 1) g)) else none)
      else
        (some 0)) else none))
def turns_standsUpTo (F : Nat) (v1 : Int32) (g : Sg) : Option (Int32) :=
  (turns_standsUpTo_4 F v1 0 0 g)
theorem p_turns_standsUpTo_4 {X : Xx} {d : Nat} {g : Sg} (hd : 0 ≤ d) : ∀ (n : Nat) (v1 : Int32) (v2 : Int32) (v3 : Int32), Lt X d (some .boolean) k_97 (fun r : Int32 => ((some (.int r), (SHF, g)) : Out)) 4 [some (.ref 208), some (.int v1), some (.int v2), some (.int v3)] [] g (turns_standsUpTo_4 n v1 v2 v3 g) := by
  intro n
  induction n with
  | zero => intros; exact L_none
  | succ n ih =>
    intro v1 v2 v3
    show Lt X d (some .boolean) k_97 (fun r : Int32 => ((some (.int r), (SHF, g)) : Out)) 4 [some (.ref 208), some (.int v1), some (.int v2), some (.int v3)] [] g (
      (if (g 208 7) ≤ v3 then
        (if (((g 208 2) - 1) - v1) < v2 then
          (some 0)
        else
          (some 1))
      else
        (if inb v3 4 = true then (if (v1 - (g 214 (Int32.toNatClampNeg v3))) ≤ (g 208 5) then
          (if inb v3 4 = true then lt1 ((v2 + (if 0 < ((g 208 4) - (g 212 (Int32.toNatClampNeg v3))) then ((g 208 4) - (g 212 (Int32.toNatClampNeg v3))) else 0)) : Int32) (fun x1 => (turns_standsUpTo_4 n v1 x1 (v3 + 1) g)) else none)
        else
          (some 0)) else none)))
    refine L_s (pc' := 5) rfl rfl ?_
    refine L_s (pc' := 6) rfl rfl ?_
    refine L_gf (pc' := 9) rfl fi_208_7 rfl ?_
    refine L_br (t := 53) (n := 12) rfl rfl (fun _ => ?_) (fun _ => ?_)
    · refine L_s (pc' := 54) rfl rfl ?_
      refine L_s (pc' := 55) rfl rfl ?_
      refine L_gf (pc' := 58) rfl fi_208_2 rfl ?_
      refine L_ic (pc' := 59) rfl q1_1 rfl ?_
      refine L_s (pc' := 60) rfl rfl ?_
      refine L_s (pc' := 61) rfl rfl ?_
      refine L_s (pc' := 62) rfl rfl ?_
      refine L_br (t := 69) (n := 65) rfl rfl (fun _ => ?_) (fun _ => ?_)
      · refine L_ic (pc' := 70) rfl q1_0 rfl ?_
        exact L_ret rfl (ret_z (by decide)) rfl
      · refine L_ic (pc' := 66) rfl q1_1 rfl ?_
        refine L_s (pc' := 70) rfl rfl ?_
        exact L_ret rfl (ret_z (by decide)) rfl
    · refine L_s (pc' := 13) rfl rfl ?_
      refine L_s (pc' := 14) rfl rfl ?_
      refine L_gf (pc' := 17) rfl fr_208_13 rfl ?_
      refine L_s (pc' := 18) rfl rfl ?_
      refine L_rI (pc' := 19) rfl sh_214 (by decide) rfl ?_
      refine L_s (pc' := 20) rfl rfl ?_
      refine L_s (pc' := 21) rfl rfl ?_
      refine L_gf (pc' := 24) rfl fi_208_5 rfl ?_
      refine L_br (t := 29) (n := 27) rfl rfl (fun _ => ?_) (fun _ => ?_)
      · refine L_s (pc' := 30) rfl rfl ?_
        refine L_ic (pc' := 31) rfl q1_0 rfl ?_
        refine L_s (pc' := 32) rfl rfl ?_
        refine L_gf (pc' := 35) rfl fi_208_4 rfl ?_
        refine L_s (pc' := 36) rfl rfl ?_
        refine L_gf (pc' := 39) rfl fr_208_11 rfl ?_
        refine L_s (pc' := 40) rfl rfl ?_
        refine L_rI (pc' := 41) rfl sh_212 (by decide) rfl ?_
        refine L_s (pc' := 42) rfl rfl ?_
        refine L_s (pc' := 45) rfl rfl ?_
        refine L_s (pc' := 46) rfl rfl ?_
        refine L_li fun x1 _ => ?_
        refine L_s (pc' := 47) (L' := [some (.ref 208), some (.int v1), some (.int x1), some (.int v3)]) rfl rfl ?_
        refine L_ii (pc' := 50) (L' := [some (.ref 208), some (.int v1), some (.int x1), some (.int (v3 + 1))]) rfl rfl q1_1 rfl rfl rfl ?_
        refine L_s (pc' := 4) rfl rfl ?_
        exact ih _ _ _
      · refine L_ic (pc' := 28) rfl q1_0 rfl ?_
        exact L_ret rfl (ret_z (by decide)) rfl
theorem e_turns_standsUpTo {X : Xx} {d : Nat} (hd : 1 ≤ d) (F : Nat) (v1 : Int32) (g : Sg) : ∀ r, turns_standsUpTo F v1 g = some r → EvM zft mtl X d 97 [.ref 208, .int v1] (SHF, g) ((fun r : Int32 => ((some (.int r), (SHF, g)) : Out)) r) := by
  obtain ⟨d, rfl⟩ : ∃ d0, d = d0 + 1 := ⟨d - 1, by omega⟩
  have hd : 0 ≤ d := by omega
  refine E_in (f := (fun r : Int32 => ((some (.int r), (SHF, g)) : Out))) rfl (Nat.le_of_ble_eq_true rfl) ?_
  unfold turns_standsUpTo
  change Lt X d (some .boolean) k_97 _ 0 [some (.ref 208), some (.int v1), none, none] [] g _
  refine L_ic (pc' := 1) rfl q1_0 rfl ?_
  refine L_s (pc' := 2) (L' := [some (.ref 208), some (.int v1), some (.int 0), none]) rfl rfl ?_
  refine L_ic (pc' := 3) rfl q1_0 rfl ?_
  refine L_s (pc' := 4) (L' := [some (.ref 208), some (.int v1), some (.int 0), some (.int 0)]) rfl rfl ?_
  exact p_turns_standsUpTo_4 hd F _ _ _
def turns_takeBack (v1 : Int32) (v2 : Int32) (v3 : Int32) (g : Sg) : Option (Sg) :=
  Option.bind (x_within v2 0 ((g 208 7) - 1) g) (fun x1 => (if x1 = 0 then
    (some g)
  else
    (if inb v2 4 = true then lt1 (up2 g 214 (Int32.toNatClampNeg v2) v3) (fun g2 => (if inb v2 4 = true then (if inb v2 4 = true then lt1 (up2 g2 212 (Int32.toNatClampNeg v2) ((g2 212 (Int32.toNatClampNeg v2)) - 1)) (fun g3 => (if inb v2 4 = true then (if inb v2 4 = true then lt1 (up2 g3 213 (Int32.toNatClampNeg v2) ((g3 213 (Int32.toNatClampNeg v2)) - (v1 - v1 / 2 * 2))) (fun g4 => (some g4)) else none) else none)) else none) else none)) else none)))
theorem e_turns_takeBack {X : Xx} {d : Nat} (hd : 2 ≤ d) (v1 : Int32) (v2 : Int32) (v3 : Int32) (g : Sg) : ∀ r, turns_takeBack v1 v2 v3 g = some r → EvM zft mtl X d 96 [.ref 208, .int v1, .int v2, .int v3] (SHF, g) ((fun r : Sg => ((none, (SHF, r)) : Out)) r) := by
  obtain ⟨d, rfl⟩ : ∃ d0, d = d0 + 1 := ⟨d - 1, by omega⟩
  have hd : 1 ≤ d := by omega
  refine E_in (f := (fun r : Sg => ((none, (SHF, r)) : Out))) rfl (Nat.le_of_ble_eq_true rfl) ?_
  unfold turns_takeBack
  change Lt X d none k_96 _ 0 [some (.ref 208), some (.int v1), some (.int v2), some (.int v3)] [] g _
  refine L_s (pc' := 1) rfl rfl ?_
  refine L_ic (pc' := 2) rfl q1_0 rfl ?_
  refine L_s (pc' := 3) rfl rfl ?_
  refine L_gf (pc' := 6) rfl fi_208_7 rfl ?_
  refine L_ic (pc' := 7) rfl q1_1 rfl ?_
  refine L_s (pc' := 8) rfl rfl ?_
  refine L_ci (pc' := 11) (as := [.int v2, .int 0, .int ((g 208 7) - 1)]) (rest := []) rfl rfl (e_x_within (by omega) _ _ _ _) rfl fun x1 => ?_
  refine L_br (t := 43) (n := 14) rfl rfl (fun _ => ?_) (fun _ => ?_)
  · exact L_ret rfl rfl rfl
  · refine L_s (pc' := 15) rfl rfl ?_
    refine L_gf (pc' := 18) rfl fr_208_13 rfl ?_
    refine L_s (pc' := 19) rfl rfl ?_
    refine L_s (pc' := 20) rfl rfl ?_
    refine L_wI (pc' := 21) rfl sh_214 (by decide) rfl ?_
    refine L_let fun g2 _ => ?_
    refine L_s (pc' := 22) rfl rfl ?_
    refine L_gf (pc' := 25) rfl fr_208_11 rfl ?_
    refine L_s (pc' := 26) rfl rfl ?_
    refine L_s (pc' := 27) rfl rfl ?_
    refine L_rI (pc' := 28) rfl sh_212 (by decide) rfl ?_
    refine L_ic (pc' := 29) rfl q1_1 rfl ?_
    refine L_s (pc' := 30) rfl rfl ?_
    refine L_wI (pc' := 31) rfl sh_212 (by decide) rfl ?_
    refine L_let fun g3 _ => ?_
    refine L_s (pc' := 32) rfl rfl ?_
    refine L_gf (pc' := 35) rfl fr_208_12 rfl ?_
    refine L_s (pc' := 36) rfl rfl ?_
    refine L_s (pc' := 37) rfl rfl ?_
    refine L_rI (pc' := 38) rfl sh_213 (by decide) rfl ?_
    refine L_s (pc' := 39) rfl rfl ?_
    refine L_ic (pc' := 40) rfl q1_2 rfl ?_
    refine L_rmk (pc' := 41) rfl (by decide) rfl ?_
    refine L_s (pc' := 42) rfl rfl ?_
    refine L_wI (pc' := 43) rfl sh_213 (by decide) rfl ?_
    refine L_let fun g4 _ => ?_
    exact L_ret rfl rfl rfl
def turns_place_129 (k_24 : Int32 → Int32 → Int32 → Int32 → Sg → Option (Sg)) (v1 : Int32) (v2 : Int32) (v3 : Int32) (v4 : Int32) (v8 : Int32) (g : Sg) : Option (Sg) :=
  Option.bind (turns_takeBack v1 v4 v8 g) (fun g1 => (k_24 v1 v2 v3 (v4 + 1) g1))
def turns_place_87 (F : Nat) (rc : Int32 → Int32 → Int32 → Sg → Option (Sg)) (k_24 : Int32 → Int32 → Int32 → Int32 → Sg → Option (Sg)) (v1 : Int32) (v2 : Int32) (v3 : Int32) (v4 : Int32) (v6 : Int32) (s0 : Int32) (g : Sg) : Option (Sg) :=
  Option.bind (turns_canBeBetter v1 v6 s0 g) (fun x1 => (if x1 = 0 then
    (k_24 v1 v2 v3 (v4 + 1) g)
  else
    Option.bind (turns_put v1 v4 g) (fun (x2, g3) => Option.bind (turns_standsUpTo F v1 g3) (fun x4 => (if x4 = 0 then
      (turns_place_129 k_24 v1 v2 v3 v4 x2 g3)
    else
      Option.bind (rc (v1 + 1) v6 s0 g3) (fun g5 => (turns_place_129 k_24 v1 v2 v3 v4 x2 g5)))))))
def turns_place_69 (F : Nat) (rc : Int32 → Int32 → Int32 → Sg → Option (Sg)) (k_24 : Int32 → Int32 → Int32 → Int32 → Sg → Option (Sg)) (v1 : Int32) (v2 : Int32) (v3 : Int32) (v4 : Int32) (s0 : Int32) (g : Sg) : Option (Sg) :=
  (if ¬ v4 = (g 208 7) then
    (turns_place_87 F rc k_24 v1 v2 v3 v4 s0 v3 g)
  else
    (turns_place_87 F rc k_24 v1 v2 v3 v4 s0 (v3 + 1) g))
def turns_place_55 (F : Nat) (rc : Int32 → Int32 → Int32 → Sg → Option (Sg)) (k_24 : Int32 → Int32 → Int32 → Int32 → Sg → Option (Sg)) (v1 : Int32) (v2 : Int32) (v3 : Int32) (v4 : Int32) (s0 : Int32) (g : Sg) : Option (Sg) :=
  (if s0 = 0 then
    (turns_place_69 F rc k_24 v1 v2 v3 v4 v2 g)
  else
    (turns_place_69 F rc k_24 v1 v2 v3 v4 (v2 + 1) g))
def turns_place_54 (F : Nat) (rc : Int32 → Int32 → Int32 → Sg → Option (Sg)) (k_24 : Int32 → Int32 → Int32 → Int32 → Sg → Option (Sg)) (v1 : Int32) (v2 : Int32) (v3 : Int32) (v4 : Int32) (g : Sg) : Option (Sg) :=
  (turns_place_55 F rc k_24 v1 v2 v3 v4 0 g)
def turns_place_24 (F : Nat) (rc : Int32 → Int32 → Int32 → Sg → Option (Sg)) : Nat → Int32 → Int32 → Int32 → Int32 → Sg → Option (Sg)
  | 0, _, _, _, _, _ => none
  | n + 1, v1, v2, v3, v4, g =>
    (if (g 208 7) < v4 then
      (some g)
    else
      (if v1 ≤ 0 then
        (turns_place_54 F rc (fun v1 v2 v3 v4 g0 => turns_place_24 F rc n v1 v2 v3 v4 g0) v1 v2 v3 v4 g)
      else
        (if inb (v1 - 1) 8 = true then (if (g 210 (Int32.toNatClampNeg (v1 - 1))) = v4 then
          (turns_place_54 F rc (fun v1 v2 v3 v4 g0 => turns_place_24 F rc n v1 v2 v3 v4 g0) v1 v2 v3 v4 g)
        else
          (turns_place_55 F rc (fun v1 v2 v3 v4 g0 => turns_place_24 F rc n v1 v2 v3 v4 g0) v1 v2 v3 v4 1 g)) else none)))
def turns_place (F : Nat) : Nat → Int32 → Int32 → Int32 → Sg → Option (Sg)
  | 0, _, _, _, _ => none
  | D + 1, v1, v2, v3, g =>
    lt1 (turns_place F D) fun rc =>
    (if (g 208 2) ≤ v1 then
      Option.bind (turns_keep F v2 v3 g) (fun g1 => (some g1))
    else
      (if v1 < 8 then
        (turns_place_24 F rc F v1 v2 v3 0 g)
      else
        Option.bind (turns_keep F v2 v3 g) (fun g2 => (some g2))))
theorem p_turns_place_129 {X : Xx} {d : Nat} {k_24 : Int32 → Int32 → Int32 → Int32 → Sg → Option (Sg)} (hd : 2 ≤ d) (hk_24 : ∀ (v1 : Int32) (v2 : Int32) (v3 : Int32) (v4 : Int32) (g : Sg), Lt X d none k_93 (fun r : Sg => ((none, (SHF, r)) : Out)) 24 [some (.ref 208), some (.int v1), some (.int v2), some (.int v3), some (.int v4), none, none, none, none] [] g (k_24 v1 v2 v3 v4 g)) (v1 : Int32) (v2 : Int32) (v3 : Int32) (v4 : Int32) (v8 : Int32) (g : Sg) : Lt X d none k_93 (fun r : Sg => ((none, (SHF, r)) : Out)) 129 [some (.ref 208), some (.int v1), some (.int v2), some (.int v3), some (.int v4), none, none, none, some (.int v8)] [] g (turns_place_129 k_24 v1 v2 v3 v4 v8 g) := by
  unfold turns_place_129
  refine L_s (pc' := 130) rfl rfl ?_
  refine L_s (pc' := 131) rfl rfl ?_
  refine L_s (pc' := 133) rfl rfl ?_
  refine L_s (pc' := 135) rfl rfl ?_
  refine L_cv (pc' := 138) (as := [.ref 208, .int v1, .int v4, .int v8]) (rest := []) rfl rfl (e_turns_takeBack (by omega) _ _ _ _) rfl fun g1 => ?_
  refine L_ii (pc' := 141) (L' := [some (.ref 208), some (.int v1), some (.int v2), some (.int v3), some (.int (v4 + 1)), none, none, none, some (.int v8)]) rfl rfl q1_1 rfl rfl rfl ?_
  refine L_s (pc' := 24) rfl rfl ?_
  refine L_wk (L' := [some (.ref 208), some (.int v1), some (.int v2), some (.int v3), some (.int (v4 + 1)), none, none, none, none]) (wk_s (wk_s (wk_s (wk_s (wk_s (wk_s (wk_s (wk_s (wk_n wk_nil))))))))) ?_
  exact hk_24 _ _ _ _ _
theorem p_turns_place_87 {X : Xx} {d : Nat} {rc : Int32 → Int32 → Int32 → Sg → Option (Sg)} {k_24 : Int32 → Int32 → Int32 → Int32 → Sg → Option (Sg)} (hd : 2 ≤ d) (hrc : ∀ (a1 a2 a3 : Int32) (g : Sg), ∀ r, rc a1 a2 a3 g = some r → EvM zft mtl X d 93 [.ref 208, .int a1, .int a2, .int a3] (SHF, g) ((fun r : Sg => ((none, (SHF, r)) : Out)) r)) (hk_24 : ∀ (v1 : Int32) (v2 : Int32) (v3 : Int32) (v4 : Int32) (g : Sg), Lt X d none k_93 (fun r : Sg => ((none, (SHF, r)) : Out)) 24 [some (.ref 208), some (.int v1), some (.int v2), some (.int v3), some (.int v4), none, none, none, none] [] g (k_24 v1 v2 v3 v4 g)) (F : Nat) (v1 : Int32) (v2 : Int32) (v3 : Int32) (v4 : Int32) (v6 : Int32) (s0 : Int32) (g : Sg) : Lt X d none k_93 (fun r : Sg => ((none, (SHF, r)) : Out)) 87 [some (.ref 208), some (.int v1), some (.int v2), some (.int v3), some (.int v4), none, some (.int v6), none, none] [.int s0] g (turns_place_87 F rc k_24 v1 v2 v3 v4 v6 s0 g) := by
  unfold turns_place_87
  refine L_s (pc' := 89) (L' := [some (.ref 208), some (.int v1), some (.int v2), some (.int v3), some (.int v4), none, some (.int v6), some (.int s0), none]) rfl rfl ?_
  refine L_s (pc' := 90) rfl rfl ?_
  refine L_s (pc' := 91) rfl rfl ?_
  refine L_s (pc' := 93) rfl rfl ?_
  refine L_s (pc' := 95) rfl rfl ?_
  refine L_ci (pc' := 98) (as := [.ref 208, .int v1, .int v6, .int s0]) (rest := []) rfl rfl (e_turns_canBeBetter (by omega) _ _ _ _) rfl fun x1 => ?_
  refine L_br (t := 138) (n := 101) rfl rfl (fun _ => ?_) (fun _ => ?_)
  · refine L_ii (pc' := 141) (L' := [some (.ref 208), some (.int v1), some (.int v2), some (.int v3), some (.int (v4 + 1)), none, some (.int v6), some (.int s0), none]) rfl rfl q1_1 rfl rfl rfl ?_
    refine L_s (pc' := 24) rfl rfl ?_
    refine L_wk (L' := [some (.ref 208), some (.int v1), some (.int v2), some (.int v3), some (.int (v4 + 1)), none, none, none, none]) (wk_s (wk_s (wk_s (wk_s (wk_s (wk_s (wk_n (wk_n (wk_s wk_nil))))))))) ?_
    exact hk_24 _ _ _ _ _
  · refine L_s (pc' := 102) rfl rfl ?_
    refine L_s (pc' := 103) rfl rfl ?_
    refine L_s (pc' := 105) rfl rfl ?_
    refine L_cig (pc' := 108) (as := [.ref 208, .int v1, .int v4]) (rest := []) rfl rfl (e_turns_put (by omega) _ _ _) rfl fun x2 g3 => ?_
    refine L_s (pc' := 110) (L' := [some (.ref 208), some (.int v1), some (.int v2), some (.int v3), some (.int v4), none, some (.int v6), some (.int s0), some (.int x2)]) rfl rfl ?_
    refine L_s (pc' := 111) rfl rfl ?_
    refine L_s (pc' := 112) rfl rfl ?_
    refine L_ci (pc' := 115) (as := [.ref 208, .int v1]) (rest := []) rfl rfl (e_turns_standsUpTo (by omega) F _ _) rfl fun x4 => ?_
    refine L_br (t := 129) (n := 118) rfl rfl (fun _ => ?_) (fun _ => ?_)
    · refine L_wk (L' := [some (.ref 208), some (.int v1), some (.int v2), some (.int v3), some (.int v4), none, none, none, some (.int x2)]) (wk_s (wk_s (wk_s (wk_s (wk_s (wk_s (wk_n (wk_n (wk_s wk_nil))))))))) ?_
      exact p_turns_place_129 hd hk_24 _ _ _ _ _ _
    · refine L_s (pc' := 119) rfl rfl ?_
      refine L_s (pc' := 120) rfl rfl ?_
      refine L_ic (pc' := 121) rfl q1_1 rfl ?_
      refine L_s (pc' := 122) rfl rfl ?_
      refine L_s (pc' := 124) rfl rfl ?_
      refine L_s (pc' := 126) rfl rfl ?_
      refine L_cv (pc' := 129) (as := [.ref 208, .int (v1 + 1), .int v6, .int s0]) (rest := []) rfl rfl (hrc _ _ _ _) rfl fun g5 => ?_
      refine L_wk (L' := [some (.ref 208), some (.int v1), some (.int v2), some (.int v3), some (.int v4), none, none, none, some (.int x2)]) (wk_s (wk_s (wk_s (wk_s (wk_s (wk_s (wk_n (wk_n (wk_s wk_nil))))))))) ?_
      exact p_turns_place_129 hd hk_24 _ _ _ _ _ _
theorem p_turns_place_69 {X : Xx} {d : Nat} {rc : Int32 → Int32 → Int32 → Sg → Option (Sg)} {k_24 : Int32 → Int32 → Int32 → Int32 → Sg → Option (Sg)} (hd : 2 ≤ d) (hrc : ∀ (a1 a2 a3 : Int32) (g : Sg), ∀ r, rc a1 a2 a3 g = some r → EvM zft mtl X d 93 [.ref 208, .int a1, .int a2, .int a3] (SHF, g) ((fun r : Sg => ((none, (SHF, r)) : Out)) r)) (hk_24 : ∀ (v1 : Int32) (v2 : Int32) (v3 : Int32) (v4 : Int32) (g : Sg), Lt X d none k_93 (fun r : Sg => ((none, (SHF, r)) : Out)) 24 [some (.ref 208), some (.int v1), some (.int v2), some (.int v3), some (.int v4), none, none, none, none] [] g (k_24 v1 v2 v3 v4 g)) (F : Nat) (v1 : Int32) (v2 : Int32) (v3 : Int32) (v4 : Int32) (s0 : Int32) (g : Sg) : Lt X d none k_93 (fun r : Sg => ((none, (SHF, r)) : Out)) 69 [some (.ref 208), some (.int v1), some (.int v2), some (.int v3), some (.int v4), none, none, none, none] [.int s0] g (turns_place_69 F rc k_24 v1 v2 v3 v4 s0 g) := by
  unfold turns_place_69
  refine L_s (pc' := 71) (L' := [some (.ref 208), some (.int v1), some (.int v2), some (.int v3), some (.int v4), none, some (.int s0), none, none]) rfl rfl ?_
  refine L_s (pc' := 73) rfl rfl ?_
  refine L_s (pc' := 74) rfl rfl ?_
  refine L_gf (pc' := 77) rfl fi_208_7 rfl ?_
  refine L_br (t := 86) (n := 80) rfl rfl (fun _ => ?_) (fun _ => ?_)
  · refine L_s (pc' := 87) rfl rfl ?_
    exact p_turns_place_87 hd hrc hk_24 F _ _ _ _ _ _ _
  · refine L_s (pc' := 81) rfl rfl ?_
    refine L_ic (pc' := 82) rfl q1_1 rfl ?_
    refine L_s (pc' := 83) rfl rfl ?_
    refine L_s (pc' := 87) rfl rfl ?_
    exact p_turns_place_87 hd hrc hk_24 F _ _ _ _ _ _ _
theorem p_turns_place_55 {X : Xx} {d : Nat} {rc : Int32 → Int32 → Int32 → Sg → Option (Sg)} {k_24 : Int32 → Int32 → Int32 → Int32 → Sg → Option (Sg)} (hd : 2 ≤ d) (hrc : ∀ (a1 a2 a3 : Int32) (g : Sg), ∀ r, rc a1 a2 a3 g = some r → EvM zft mtl X d 93 [.ref 208, .int a1, .int a2, .int a3] (SHF, g) ((fun r : Sg => ((none, (SHF, r)) : Out)) r)) (hk_24 : ∀ (v1 : Int32) (v2 : Int32) (v3 : Int32) (v4 : Int32) (g : Sg), Lt X d none k_93 (fun r : Sg => ((none, (SHF, r)) : Out)) 24 [some (.ref 208), some (.int v1), some (.int v2), some (.int v3), some (.int v4), none, none, none, none] [] g (k_24 v1 v2 v3 v4 g)) (F : Nat) (v1 : Int32) (v2 : Int32) (v3 : Int32) (v4 : Int32) (s0 : Int32) (g : Sg) : Lt X d none k_93 (fun r : Sg => ((none, (SHF, r)) : Out)) 55 [some (.ref 208), some (.int v1), some (.int v2), some (.int v3), some (.int v4), none, none, none, none] [.int s0] g (turns_place_55 F rc k_24 v1 v2 v3 v4 s0 g) := by
  unfold turns_place_55
  refine L_s (pc' := 57) (L' := [some (.ref 208), some (.int v1), some (.int v2), some (.int v3), some (.int v4), some (.int s0), none, none, none]) rfl rfl ?_
  refine L_s (pc' := 59) rfl rfl ?_
  refine L_br (t := 68) (n := 62) rfl rfl (fun _ => ?_) (fun _ => ?_)
  · refine L_s (pc' := 69) rfl rfl ?_
    refine L_wk (L' := [some (.ref 208), some (.int v1), some (.int v2), some (.int v3), some (.int v4), none, none, none, none]) (wk_s (wk_s (wk_s (wk_s (wk_s (wk_n (wk_s (wk_s (wk_s wk_nil))))))))) ?_
    exact p_turns_place_69 hd hrc hk_24 F _ _ _ _ _ _
  · refine L_s (pc' := 63) rfl rfl ?_
    refine L_ic (pc' := 64) rfl q1_1 rfl ?_
    refine L_s (pc' := 65) rfl rfl ?_
    refine L_s (pc' := 69) rfl rfl ?_
    refine L_wk (L' := [some (.ref 208), some (.int v1), some (.int v2), some (.int v3), some (.int v4), none, none, none, none]) (wk_s (wk_s (wk_s (wk_s (wk_s (wk_n (wk_s (wk_s (wk_s wk_nil))))))))) ?_
    exact p_turns_place_69 hd hrc hk_24 F _ _ _ _ _ _
theorem p_turns_place_54 {X : Xx} {d : Nat} {rc : Int32 → Int32 → Int32 → Sg → Option (Sg)} {k_24 : Int32 → Int32 → Int32 → Int32 → Sg → Option (Sg)} (hd : 2 ≤ d) (hrc : ∀ (a1 a2 a3 : Int32) (g : Sg), ∀ r, rc a1 a2 a3 g = some r → EvM zft mtl X d 93 [.ref 208, .int a1, .int a2, .int a3] (SHF, g) ((fun r : Sg => ((none, (SHF, r)) : Out)) r)) (hk_24 : ∀ (v1 : Int32) (v2 : Int32) (v3 : Int32) (v4 : Int32) (g : Sg), Lt X d none k_93 (fun r : Sg => ((none, (SHF, r)) : Out)) 24 [some (.ref 208), some (.int v1), some (.int v2), some (.int v3), some (.int v4), none, none, none, none] [] g (k_24 v1 v2 v3 v4 g)) (F : Nat) (v1 : Int32) (v2 : Int32) (v3 : Int32) (v4 : Int32) (g : Sg) : Lt X d none k_93 (fun r : Sg => ((none, (SHF, r)) : Out)) 54 [some (.ref 208), some (.int v1), some (.int v2), some (.int v3), some (.int v4), none, none, none, none] [] g (turns_place_54 F rc k_24 v1 v2 v3 v4 g) := by
  unfold turns_place_54
  refine L_ic (pc' := 55) rfl q1_0 rfl ?_
  exact p_turns_place_55 hd hrc hk_24 F _ _ _ _ _ _
theorem p_turns_place_24 {X : Xx} {d : Nat} {rc : Int32 → Int32 → Int32 → Sg → Option (Sg)} (hd : 2 ≤ d) (hrc : ∀ (a1 a2 a3 : Int32) (g : Sg), ∀ r, rc a1 a2 a3 g = some r → EvM zft mtl X d 93 [.ref 208, .int a1, .int a2, .int a3] (SHF, g) ((fun r : Sg => ((none, (SHF, r)) : Out)) r)) (F : Nat) : ∀ (n : Nat) (v1 : Int32) (v2 : Int32) (v3 : Int32) (v4 : Int32) (g : Sg), Lt X d none k_93 (fun r : Sg => ((none, (SHF, r)) : Out)) 24 [some (.ref 208), some (.int v1), some (.int v2), some (.int v3), some (.int v4), none, none, none, none] [] g (turns_place_24 F rc n v1 v2 v3 v4 g) := by
  intro n
  induction n with
  | zero => intros; exact L_none
  | succ n ih =>
    intro v1 v2 v3 v4 g
    show Lt X d none k_93 (fun r : Sg => ((none, (SHF, r)) : Out)) 24 [some (.ref 208), some (.int v1), some (.int v2), some (.int v3), some (.int v4), none, none, none, none] [] g (
      (if (g 208 7) < v4 then
        (some g)
      else
        (if v1 ≤ 0 then
          (turns_place_54 F rc (fun v1 v2 v3 v4 g0 => turns_place_24 F rc n v1 v2 v3 v4 g0) v1 v2 v3 v4 g)
        else
          (if inb (v1 - 1) 8 = true then (if (g 210 (Int32.toNatClampNeg (v1 - 1))) = v4 then
            (turns_place_54 F rc (fun v1 v2 v3 v4 g0 => turns_place_24 F rc n v1 v2 v3 v4 g0) v1 v2 v3 v4 g)
          else
            (turns_place_55 F rc (fun v1 v2 v3 v4 g0 => turns_place_24 F rc n v1 v2 v3 v4 g0) v1 v2 v3 v4 1 g)) else none))))
    refine L_s (pc' := 26) rfl rfl ?_
    refine L_s (pc' := 27) rfl rfl ?_
    refine L_gf (pc' := 30) rfl fi_208_7 rfl ?_
    refine L_br (t := 144) (n := 33) rfl rfl (fun _ => ?_) (fun _ => ?_)
    · exact L_ret rfl rfl rfl
    · refine L_s (pc' := 34) rfl rfl ?_
      refine L_br (t := 54) (n := 37) rfl rfl (fun _ => ?_) (fun _ => ?_)
      · exact p_turns_place_54 hd hrc (fun _ _ _ _ _ => ih _ _ _ _ _) F _ _ _ _ _
      · refine L_s (pc' := 38) rfl rfl ?_
        refine L_gf (pc' := 41) rfl fr_208_9 rfl ?_
        refine L_s (pc' := 42) rfl rfl ?_
        refine L_ic (pc' := 43) rfl q1_1 rfl ?_
        refine L_s (pc' := 44) rfl rfl ?_
        refine L_rI (pc' := 45) rfl sh_210 (by decide) rfl ?_
        refine L_s (pc' := 47) rfl rfl ?_
        refine L_br (t := 54) (n := 50) rfl rfl (fun _ => ?_) (fun _ => ?_)
        · exact p_turns_place_54 hd hrc (fun _ _ _ _ _ => ih _ _ _ _ _) F _ _ _ _ _
        · refine L_ic (pc' := 51) rfl q1_1 rfl ?_
          refine L_s (pc' := 55) rfl rfl ?_
          exact p_turns_place_55 hd hrc (fun _ _ _ _ _ => ih _ _ _ _ _) F _ _ _ _ _ _
theorem e_turns_place {X : Xx} (F : Nat) : ∀ (D : Nat) {d : Nat} (hd : 3 + D ≤ d) (v1 : Int32) (v2 : Int32) (v3 : Int32) (g : Sg), ∀ r, turns_place F D v1 v2 v3 g = some r → EvM zft mtl X d 93 [.ref 208, .int v1, .int v2, .int v3] (SHF, g) ((fun r : Sg => ((none, (SHF, r)) : Out)) r) := by
  intro D
  induction D with
  | zero => intro d hd v1 v2 v3 g r h; cases h
  | succ D ihD =>
    intro d hd v1 v2 v3 g
    obtain ⟨d, rfl⟩ : ∃ d0, d = d0 + 1 := ⟨d - 1, by omega⟩
    have hrc := fun (v1 : Int32) (v2 : Int32) (v3 : Int32) (g : Sg) => ihD (d := d) (by omega) v1 v2 v3 g
    have hd : 2 ≤ d := by omega
    refine E_in (f := (fun r : Sg => ((none, (SHF, r)) : Out))) rfl (Nat.le_of_ble_eq_true rfl) ?_
    change Lt X d none k_93 _ 0 [some (.ref 208), some (.int v1), some (.int v2), some (.int v3), none, none, none, none, none] [] g (
      (if (g 208 2) ≤ v1 then
        Option.bind (turns_keep F v2 v3 g) (fun g1 => (some g1))
      else
        (if v1 < 8 then
          (turns_place_24 F (turns_place F D) F v1 v2 v3 0 g)
        else
          Option.bind (turns_keep F v2 v3 g) (fun g2 => (some g2)))))
    refine L_s (pc' := 1) rfl rfl ?_
    refine L_s (pc' := 2) rfl rfl ?_
    refine L_gf (pc' := 5) rfl fi_208_2 rfl ?_
    refine L_br (t := 14) (n := 8) rfl rfl (fun _ => ?_) (fun _ => ?_)
    · refine L_s (pc' := 15) rfl rfl ?_
      refine L_s (pc' := 16) rfl rfl ?_
      refine L_s (pc' := 17) rfl rfl ?_
      refine L_cv (pc' := 20) (as := [.ref 208, .int v2, .int v3]) (rest := []) rfl rfl (e_turns_keep (by omega) F _ _ _) rfl fun g1 => ?_
      exact L_ret rfl rfl rfl
    · refine L_s (pc' := 9) rfl rfl ?_
      refine L_bi (pc' := 11) rfl q2_8 rfl ?_
      refine L_br (t := 21) (n := 14) rfl rfl (fun _ => ?_) (fun _ => ?_)
      · refine L_ic (pc' := 22) rfl q1_0 rfl ?_
        refine L_s (pc' := 24) (L' := [some (.ref 208), some (.int v1), some (.int v2), some (.int v3), some (.int 0), none, none, none, none]) rfl rfl ?_
        exact p_turns_place_24 hd hrc F F _ _ _ _ _
      · refine L_s (pc' := 15) rfl rfl ?_
        refine L_s (pc' := 16) rfl rfl ?_
        refine L_s (pc' := 17) rfl rfl ?_
        refine L_cv (pc' := 20) (as := [.ref 208, .int v2, .int v3]) (rest := []) rfl rfl (e_turns_keep (by omega) F _ _ _) rfl fun g2 => ?_
        exact L_ret rfl rfl rfl
def turns_search_38 (F : Nat) (v1 : Int32) (v2 : Int32) (v3 : Int32) (v4 : Int32) (g : Sg) : Option (Int32 × Sg) :=
  lt1 (up2 g 208 2 v1) (fun g1 => lt1 (up2 g1 208 3 v2) (fun g2 => lt1 (up2 g2 208 4 v3) (fun g3 => lt1 (up2 g3 208 5 v4) (fun g4 => lt1 (up2 g4 208 6 0) (fun g5 => Option.bind (turns_listMembers F g5) (fun g6 => Option.bind (jA_fill_c5 F 0 g6) (fun g7 => Option.bind (jA_fill_c6 F 0 g7) (fun g8 => Option.bind (jA_fill_c7 F (-1) g8) (fun g9 => Option.bind (turns_place F 10 0 0 0 g9) (fun g10 => (if (g10 208 6) = 0 ∨ (g10 208 6) = 1 then (some ((g10 208 6), g10)) else none)))))))))))
def turns_search (F : Nat) (v1 : Int32) (v2 : Int32) (v3 : Int32) (v4 : Int32) (g : Sg) : Option (Int32 × Sg) :=
  (if ¬ v1 = (g 208 2) then
    (turns_search_38 F v1 v2 v3 v4 g)
  else
    (if ¬ v2 = (g 208 3) then
      (turns_search_38 F v1 v2 v3 v4 g)
    else
      (if ¬ v3 = (g 208 4) then
        (turns_search_38 F v1 v2 v3 v4 g)
      else
        (if ¬ v4 = (g 208 5) then
          (turns_search_38 F v1 v2 v3 v4 g)
        else
          (if (g 208 6) = 0 ∨ (g 208 6) = 1 then (some ((g 208 6), g)) else none)))))
theorem p_turns_search_38 {X : Xx} {d : Nat} (hd : 13 ≤ d) (F : Nat) (v1 : Int32) (v2 : Int32) (v3 : Int32) (v4 : Int32) (g : Sg) : Lt X d (some .boolean) k_90 (fun r : Int32 × Sg => ((some (.int r.1), (SHF, r.2)) : Out)) 38 [some (.ref 208), some (.int v1), some (.int v2), some (.int v3), some (.int v4)] [] g (turns_search_38 F v1 v2 v3 v4 g) := by
  unfold turns_search_38
  refine L_s (pc' := 39) rfl rfl ?_
  refine L_s (pc' := 40) rfl rfl ?_
  refine L_pf (pc' := 43) rfl sh_208 (by decide) rfl rfl ?_
  refine L_let fun g1 _ => ?_
  refine L_s (pc' := 44) rfl rfl ?_
  refine L_s (pc' := 45) rfl rfl ?_
  refine L_pf (pc' := 48) rfl sh_208 (by decide) rfl rfl ?_
  refine L_let fun g2 _ => ?_
  refine L_s (pc' := 49) rfl rfl ?_
  refine L_s (pc' := 50) rfl rfl ?_
  refine L_pf (pc' := 53) rfl sh_208 (by decide) rfl rfl ?_
  refine L_let fun g3 _ => ?_
  refine L_s (pc' := 54) rfl rfl ?_
  refine L_s (pc' := 56) rfl rfl ?_
  refine L_pf (pc' := 59) rfl sh_208 (by decide) rfl rfl ?_
  refine L_let fun g4 _ => ?_
  refine L_s (pc' := 60) rfl rfl ?_
  refine L_ic (pc' := 61) rfl q1_0 rfl ?_
  refine L_pz (pc' := 64) rfl sh_208 (by decide) rfl (by decide) rfl ?_
  refine L_let fun g5 _ => ?_
  refine L_s (pc' := 65) rfl rfl ?_
  refine L_cv (pc' := 68) (as := [.ref 208]) (rest := []) rfl rfl (e_turns_listMembers (by omega) F _) rfl fun g6 => ?_
  refine L_s (pc' := 69) rfl rfl ?_
  refine L_gf (pc' := 72) rfl fr_208_11 rfl ?_
  refine L_ic (pc' := 73) rfl q1_0 rfl ?_
  refine L_cv (pc' := 76) (as := [.ref 212, .int 0]) (rest := []) rfl rfl (e_jA_fill_c5 (by omega) F _ _) rfl fun g7 => ?_
  refine L_s (pc' := 77) rfl rfl ?_
  refine L_gf (pc' := 80) rfl fr_208_12 rfl ?_
  refine L_ic (pc' := 81) rfl q1_0 rfl ?_
  refine L_cv (pc' := 84) (as := [.ref 213, .int 0]) (rest := []) rfl rfl (e_jA_fill_c6 (by omega) F _ _) rfl fun g8 => ?_
  refine L_s (pc' := 85) rfl rfl ?_
  refine L_gf (pc' := 88) rfl fr_208_13 rfl ?_
  refine L_ic (pc' := 89) rfl q1_m1 rfl ?_
  refine L_cv (pc' := 92) (as := [.ref 214, .int (-1)]) (rest := []) rfl rfl (e_jA_fill_c7 (by omega) F _ _) rfl fun g9 => ?_
  refine L_s (pc' := 93) rfl rfl ?_
  refine L_ic (pc' := 94) rfl q1_0 rfl ?_
  refine L_ic (pc' := 95) rfl q1_0 rfl ?_
  refine L_ic (pc' := 96) rfl q1_0 rfl ?_
  refine L_cv (pc' := 99) (as := [.ref 208, .int 0, .int 0, .int 0]) (rest := []) rfl rfl (e_turns_place F 10 (by omega) _ _ _ _) rfl fun g10 => ?_
  refine L_s (pc' := 100) rfl rfl ?_
  refine L_gf (pc' := 103) rfl fi_208_6 rfl ?_
  exact L_g fun h => L_ret rfl (ret_z h) rfl
theorem e_turns_search {X : Xx} {d : Nat} (hd : 14 ≤ d) (F : Nat) (v1 : Int32) (v2 : Int32) (v3 : Int32) (v4 : Int32) (g : Sg) : ∀ r, turns_search F v1 v2 v3 v4 g = some r → EvM zft mtl X d 90 [.ref 208, .int v1, .int v2, .int v3, .int v4] (SHF, g) ((fun r : Int32 × Sg => ((some (.int r.1), (SHF, r.2)) : Out)) r) := by
  obtain ⟨d, rfl⟩ : ∃ d0, d = d0 + 1 := ⟨d - 1, by omega⟩
  have hd : 13 ≤ d := by omega
  refine E_in (f := (fun r : Int32 × Sg => ((some (.int r.1), (SHF, r.2)) : Out))) rfl (Nat.le_of_ble_eq_true rfl) ?_
  unfold turns_search
  change Lt X d (some .boolean) k_90 _ 0 [some (.ref 208), some (.int v1), some (.int v2), some (.int v3), some (.int v4)] [] g _
  refine L_s (pc' := 1) rfl rfl ?_
  refine L_s (pc' := 2) rfl rfl ?_
  refine L_gf (pc' := 5) rfl fi_208_2 rfl ?_
  refine L_br (t := 38) (n := 8) rfl rfl (fun _ => ?_) (fun _ => ?_)
  · exact p_turns_search_38 hd F _ _ _ _ _
  · refine L_s (pc' := 9) rfl rfl ?_
    refine L_s (pc' := 10) rfl rfl ?_
    refine L_gf (pc' := 13) rfl fi_208_3 rfl ?_
    refine L_br (t := 38) (n := 16) rfl rfl (fun _ => ?_) (fun _ => ?_)
    · exact p_turns_search_38 hd F _ _ _ _ _
    · refine L_s (pc' := 17) rfl rfl ?_
      refine L_s (pc' := 18) rfl rfl ?_
      refine L_gf (pc' := 21) rfl fi_208_4 rfl ?_
      refine L_br (t := 38) (n := 24) rfl rfl (fun _ => ?_) (fun _ => ?_)
      · exact p_turns_search_38 hd F _ _ _ _ _
      · refine L_s (pc' := 26) rfl rfl ?_
        refine L_s (pc' := 27) rfl rfl ?_
        refine L_gf (pc' := 30) rfl fi_208_5 rfl ?_
        refine L_br (t := 38) (n := 33) rfl rfl (fun _ => ?_) (fun _ => ?_)
        · exact p_turns_search_38 hd F _ _ _ _ _
        · refine L_s (pc' := 34) rfl rfl ?_
          refine L_gf (pc' := 37) rfl fi_208_6 rfl ?_
          exact L_g fun h => L_ret rfl (ret_z h) rfl
def x_findTurns (F : Nat) (v1 : Int32) (v2 : Int32) (v3 : Int32) (v4 : Int32) (g : Sg) : Option (Int32 × Sg) :=
  Option.bind (x_within v1 1 8 g) (fun x1 => (if x1 = 0 then
    (some (0, g))
  else
    Option.bind (x_within v3 1 4 g) (fun x2 => (if x2 = 0 then
      (some (0, g))
    else
      Option.bind (x_within v4 0 7 g) (fun x3 => (if ¬ x3 = 0 then
        Option.bind (jI_bitCount v2 g) (fun x4 => Option.bind (x_within x4 1 4 g) (fun x5 => (if x5 = 0 then
          (some (0, g))
        else
          Option.bind (net_areFields F v2 g) (fun x6 => (if ¬ x6 = 0 then
            Option.bind (turns_search F v1 v2 v3 v4 g) (fun (x7, g8) => (if x7 = 0 ∨ x7 = 1 then (some (x7, g8)) else none))
          else
            (some (0, g)))))))
      else
        (some (0, g))))))))
theorem e_x_findTurns {X : Xx} {d : Nat} (hd : 15 ≤ d) (F : Nat) (v1 : Int32) (v2 : Int32) (v3 : Int32) (v4 : Int32) (g : Sg) : ∀ r, x_findTurns F v1 v2 v3 v4 g = some r → EvM zft mtl X d 144 [.ref 0, .int v1, .int v2, .int v3, .int v4] (SHF, g) ((fun r : Int32 × Sg => ((some (.int r.1), (SHF, r.2)) : Out)) r) := by
  obtain ⟨d, rfl⟩ : ∃ d0, d = d0 + 1 := ⟨d - 1, by omega⟩
  have hd : 14 ≤ d := by omega
  refine E_in (f := (fun r : Int32 × Sg => ((some (.int r.1), (SHF, r.2)) : Out))) rfl (Nat.le_of_ble_eq_true rfl) ?_
  unfold x_findTurns
  change Lt X d (some .boolean) k_144 _ 0 [some (.ref 0), some (.int v1), some (.int v2), some (.int v3), some (.int v4), none] [] g _
  refine L_s (pc' := 1) rfl rfl ?_
  refine L_ic (pc' := 2) rfl q1_1 rfl ?_
  refine L_bi (pc' := 4) rfl q2_8 rfl ?_
  refine L_ci (pc' := 7) (as := [.int v1, .int 1, .int 8]) (rest := []) rfl rfl (e_x_within (by omega) _ _ _ _) rfl fun x1 => ?_
  refine L_br (t := 30) (n := 10) rfl rfl (fun _ => ?_) (fun _ => ?_)
  · refine L_ic (pc' := 31) rfl q1_0 rfl ?_
    exact L_ret rfl (ret_z (by decide)) rfl
  · refine L_s (pc' := 11) rfl rfl ?_
    refine L_ic (pc' := 12) rfl q1_1 rfl ?_
    refine L_ic (pc' := 13) rfl q1_4 rfl ?_
    refine L_ci (pc' := 16) (as := [.int v3, .int 1, .int 4]) (rest := []) rfl rfl (e_x_within (by omega) _ _ _ _) rfl fun x2 => ?_
    refine L_br (t := 30) (n := 19) rfl rfl (fun _ => ?_) (fun _ => ?_)
    · refine L_ic (pc' := 31) rfl q1_0 rfl ?_
      exact L_ret rfl (ret_z (by decide)) rfl
    · refine L_s (pc' := 21) rfl rfl ?_
      refine L_ic (pc' := 22) rfl q1_0 rfl ?_
      refine L_bi (pc' := 24) rfl q2_7 rfl ?_
      refine L_ci (pc' := 27) (as := [.int v4, .int 0, .int 7]) (rest := []) rfl rfl (e_x_within (by omega) _ _ _ _) rfl fun x3 => ?_
      refine L_br (t := 32) (n := 30) rfl rfl (fun _ => ?_) (fun _ => ?_)
      · refine L_s (pc' := 33) rfl rfl ?_
        refine L_ci (pc' := 36) (as := [.int v2]) (rest := []) rfl rfl (e_jI_bitCount (by omega) _ _) rfl fun x4 => ?_
        refine L_s (pc' := 38) (L' := [some (.ref 0), some (.int v1), some (.int v2), some (.int v3), some (.int v4), some (.int x4)]) rfl rfl ?_
        refine L_s (pc' := 40) rfl rfl ?_
        refine L_ic (pc' := 41) rfl q1_1 rfl ?_
        refine L_ic (pc' := 42) rfl q1_4 rfl ?_
        refine L_ci (pc' := 45) (as := [.int x4, .int 1, .int 4]) (rest := []) rfl rfl (e_x_within (by omega) _ _ _ _) rfl fun x5 => ?_
        refine L_br (t := 62) (n := 48) rfl rfl (fun _ => ?_) (fun _ => ?_)
        · refine L_ic (pc' := 63) rfl q1_0 rfl ?_
          exact L_ret rfl (ret_z (by decide)) rfl
        · refine L_s (pc' := 49) rfl rfl ?_
          refine L_gf (pc' := 52) rfl fr_0_0 rfl ?_
          refine L_gf (pc' := 55) rfl fr_1_0 rfl ?_
          refine L_s (pc' := 56) rfl rfl ?_
          refine L_ci (pc' := 59) (as := [.ref 2, .int v2]) (rest := []) rfl rfl (e_net_areFields (by omega) F _ _) rfl fun x6 => ?_
          refine L_br (t := 64) (n := 62) rfl rfl (fun _ => ?_) (fun _ => ?_)
          · refine L_s (pc' := 65) rfl rfl ?_
            refine L_gf (pc' := 68) rfl fr_0_6 rfl ?_
            refine L_s (pc' := 69) rfl rfl ?_
            refine L_s (pc' := 70) rfl rfl ?_
            refine L_s (pc' := 71) rfl rfl ?_
            refine L_s (pc' := 73) rfl rfl ?_
            refine L_cig (pc' := 76) (as := [.ref 208, .int v1, .int v2, .int v3, .int v4]) (rest := []) rfl rfl (e_turns_search (by omega) F _ _ _ _ _) rfl fun x7 g8 => ?_
            exact L_g fun h => L_ret rfl (ret_z h) rfl
          · refine L_ic (pc' := 63) rfl q1_0 rfl ?_
            exact L_ret rfl (ret_z (by decide)) rfl
      · refine L_ic (pc' := 31) rfl q1_0 rfl ?_
        exact L_ret rfl (ret_z (by decide)) rfl
def x_lay (F : Nat) (v1 : Int32) (v2 : Int32) (v3 : Int32) (v4 : Int32) (v5 : Int32) (g : Sg) : Option (Int32 × Sg) :=
  Option.bind (x_within v5 0 1 g) (fun x1 => (if x1 = 0 then
    (some ((-1), g))
  else
    Option.bind (x_findTurns F v1 v2 v3 v4 g) (fun (x2, g3) => (if ¬ x2 = 0 then
      (if ¬ v5 = 0 then
        (some ((g3 208 1), g3))
      else
        (some ((g3 208 0), g3)))
    else
      (some ((-1), g3))))))
theorem e_x_lay {X : Xx} {d : Nat} (hd : 16 ≤ d) (F : Nat) (v1 : Int32) (v2 : Int32) (v3 : Int32) (v4 : Int32) (v5 : Int32) (g : Sg) : ∀ r, x_lay F v1 v2 v3 v4 v5 g = some r → EvM zft mtl X d 132 [.ref 0, .int v1, .int v2, .int v3, .int v4, .int v5] (SHF, g) ((fun r : Int32 × Sg => ((some (.int r.1), (SHF, r.2)) : Out)) r) := by
  obtain ⟨d, rfl⟩ : ∃ d0, d = d0 + 1 := ⟨d - 1, by omega⟩
  have hd : 15 ≤ d := by omega
  refine E_in (f := (fun r : Int32 × Sg => ((some (.int r.1), (SHF, r.2)) : Out))) rfl (Nat.le_of_ble_eq_true rfl) ?_
  unfold x_lay
  change Lt X d (some .int) k_132 _ 0 [some (.ref 0), some (.int v1), some (.int v2), some (.int v3), some (.int v4), some (.int v5)] [] g _
  refine L_s (pc' := 2) rfl rfl ?_
  refine L_ic (pc' := 3) rfl q1_0 rfl ?_
  refine L_ic (pc' := 4) rfl q1_1 rfl ?_
  refine L_ci (pc' := 7) (as := [.int v5, .int 0, .int 1]) (rest := []) rfl rfl (e_x_within (by omega) _ _ _ _) rfl fun x1 => ?_
  refine L_br (t := 22) (n := 10) rfl rfl (fun _ => ?_) (fun _ => ?_)
  · refine L_ic (pc' := 23) rfl q1_m1 rfl ?_
    exact L_ret rfl ret_i rfl
  · refine L_s (pc' := 11) rfl rfl ?_
    refine L_s (pc' := 12) rfl rfl ?_
    refine L_s (pc' := 13) rfl rfl ?_
    refine L_s (pc' := 14) rfl rfl ?_
    refine L_s (pc' := 16) rfl rfl ?_
    refine L_cig (pc' := 19) (as := [.ref 0, .int v1, .int v2, .int v3, .int v4]) (rest := []) rfl rfl (e_x_findTurns (by omega) F _ _ _ _ _) rfl fun x2 g3 => ?_
    refine L_br (t := 24) (n := 22) rfl rfl (fun _ => ?_) (fun _ => ?_)
    · refine L_s (pc' := 26) rfl rfl ?_
      refine L_br (t := 39) (n := 29) rfl rfl (fun _ => ?_) (fun _ => ?_)
      · refine L_s (pc' := 40) rfl rfl ?_
        refine L_gf (pc' := 43) rfl fr_0_6 rfl ?_
        refine L_gf (pc' := 46) rfl fi_208_1 rfl ?_
        exact L_ret rfl ret_i rfl
      · refine L_s (pc' := 30) rfl rfl ?_
        refine L_gf (pc' := 33) rfl fr_0_6 rfl ?_
        refine L_gf (pc' := 36) rfl fi_208_0 rfl ?_
        refine L_s (pc' := 46) rfl rfl ?_
        exact L_ret rfl ret_i rfl
    · refine L_ic (pc' := 23) rfl q1_m1 rfl ?_
      exact L_ret rfl ret_i rfl
def turns_nodeAt (v1 : Int32) (g : Sg) : Option (Int32) :=
  (if (g 208 6) = 0 then
    (some (-1))
  else
    Option.bind (x_within v1 0 ((g 208 2) - 1) g) (fun x1 => (if x1 = 0 then
      (some (-1))
    else
      (if v1 < 8 then
        (if inb v1 8 = true then lt1 ((g 211 (Int32.toNatClampNeg v1)) : Int32) (fun x2 => Option.bind (x_within x2 0 ((g 208 7) - 1) g) (fun x3 => (if x3 = 0 then
          (some 99)
        else
          (if inb x2 4 = true then (some (g 209 (Int32.toNatClampNeg x2))) else none)))) else none)
      else
        (some (-1))))))
theorem e_turns_nodeAt {X : Xx} {d : Nat} (hd : 2 ≤ d) (v1 : Int32) (g : Sg) : ∀ r, turns_nodeAt v1 g = some r → EvM zft mtl X d 91 [.ref 208, .int v1] (SHF, g) ((fun r : Int32 => ((some (.int r), (SHF, g)) : Out)) r) := by
  obtain ⟨d, rfl⟩ : ∃ d0, d = d0 + 1 := ⟨d - 1, by omega⟩
  have hd : 1 ≤ d := by omega
  refine E_in (f := (fun r : Int32 => ((some (.int r), (SHF, g)) : Out))) rfl (Nat.le_of_ble_eq_true rfl) ?_
  unfold turns_nodeAt
  change Lt X d (some .int) k_91 _ 0 [some (.ref 208), some (.int v1), none] [] g _
  refine L_s (pc' := 1) rfl rfl ?_
  refine L_gf (pc' := 4) rfl fi_208_6 rfl ?_
  refine L_br (t := 27) (n := 7) rfl rfl (fun _ => ?_) (fun _ => ?_)
  · refine L_ic (pc' := 28) rfl q1_m1 rfl ?_
    exact L_ret rfl ret_i rfl
  · refine L_s (pc' := 8) rfl rfl ?_
    refine L_ic (pc' := 9) rfl q1_0 rfl ?_
    refine L_s (pc' := 10) rfl rfl ?_
    refine L_gf (pc' := 13) rfl fi_208_2 rfl ?_
    refine L_ic (pc' := 14) rfl q1_1 rfl ?_
    refine L_s (pc' := 15) rfl rfl ?_
    refine L_ci (pc' := 18) (as := [.int v1, .int 0, .int ((g 208 2) - 1)]) (rest := []) rfl rfl (e_x_within (by omega) _ _ _ _) rfl fun x1 => ?_
    refine L_br (t := 27) (n := 21) rfl rfl (fun _ => ?_) (fun _ => ?_)
    · refine L_ic (pc' := 28) rfl q1_m1 rfl ?_
      exact L_ret rfl ret_i rfl
    · refine L_s (pc' := 22) rfl rfl ?_
      refine L_bi (pc' := 24) rfl q2_8 rfl ?_
      refine L_br (t := 29) (n := 27) rfl rfl (fun _ => ?_) (fun _ => ?_)
      · refine L_s (pc' := 30) rfl rfl ?_
        refine L_gf (pc' := 33) rfl fr_208_10 rfl ?_
        refine L_s (pc' := 34) rfl rfl ?_
        refine L_rI (pc' := 35) rfl sh_211 (by decide) rfl ?_
        refine L_li fun x2 _ => ?_
        refine L_s (pc' := 36) (L' := [some (.ref 208), some (.int v1), some (.int x2)]) rfl rfl ?_
        refine L_s (pc' := 37) rfl rfl ?_
        refine L_ic (pc' := 38) rfl q1_0 rfl ?_
        refine L_s (pc' := 39) rfl rfl ?_
        refine L_gf (pc' := 42) rfl fi_208_7 rfl ?_
        refine L_ic (pc' := 43) rfl q1_1 rfl ?_
        refine L_s (pc' := 44) rfl rfl ?_
        refine L_ci (pc' := 47) (as := [.int x2, .int 0, .int ((g 208 7) - 1)]) (rest := []) rfl rfl (e_x_within (by omega) _ _ _ _) rfl fun x3 => ?_
        refine L_br (t := 59) (n := 50) rfl rfl (fun _ => ?_) (fun _ => ?_)
        · refine L_bi (pc' := 61) rfl q2_99 rfl ?_
          exact L_ret rfl ret_i rfl
        · refine L_s (pc' := 51) rfl rfl ?_
          refine L_gf (pc' := 54) rfl fr_208_8 rfl ?_
          refine L_s (pc' := 55) rfl rfl ?_
          refine L_rI (pc' := 56) rfl sh_209 (by decide) rfl ?_
          refine L_s (pc' := 61) rfl rfl ?_
          exact L_ret rfl ret_i rfl
      · refine L_ic (pc' := 28) rfl q1_m1 rfl ?_
        exact L_ret rfl ret_i rfl
def x_laid (F : Nat) (v1 : Int32) (v2 : Int32) (v3 : Int32) (v4 : Int32) (v5 : Int32) (g : Sg) : Option (Int32 × Sg) :=
  Option.bind (x_within v5 0 (v1 - 1) g) (fun x1 => (if x1 = 0 then
    (some ((-1), g))
  else
    Option.bind (x_findTurns F v1 v2 v3 v4 g) (fun (x2, g3) => (if ¬ x2 = 0 then
      Option.bind (turns_nodeAt v5 g3) (fun x4 => (some (x4, g3)))
    else
      (some ((-1), g3))))))
theorem e_x_laid {X : Xx} {d : Nat} (hd : 16 ≤ d) (F : Nat) (v1 : Int32) (v2 : Int32) (v3 : Int32) (v4 : Int32) (v5 : Int32) (g : Sg) : ∀ r, x_laid F v1 v2 v3 v4 v5 g = some r → EvM zft mtl X d 133 [.ref 0, .int v1, .int v2, .int v3, .int v4, .int v5] (SHF, g) ((fun r : Int32 × Sg => ((some (.int r.1), (SHF, r.2)) : Out)) r) := by
  obtain ⟨d, rfl⟩ : ∃ d0, d = d0 + 1 := ⟨d - 1, by omega⟩
  have hd : 15 ≤ d := by omega
  refine E_in (f := (fun r : Int32 × Sg => ((some (.int r.1), (SHF, r.2)) : Out))) rfl (Nat.le_of_ble_eq_true rfl) ?_
  unfold x_laid
  change Lt X d (some .int) k_133 _ 0 [some (.ref 0), some (.int v1), some (.int v2), some (.int v3), some (.int v4), some (.int v5)] [] g _
  refine L_s (pc' := 2) rfl rfl ?_
  refine L_ic (pc' := 3) rfl q1_0 rfl ?_
  refine L_s (pc' := 4) rfl rfl ?_
  refine L_ic (pc' := 5) rfl q1_1 rfl ?_
  refine L_s (pc' := 6) rfl rfl ?_
  refine L_ci (pc' := 9) (as := [.int v5, .int 0, .int (v1 - 1)]) (rest := []) rfl rfl (e_x_within (by omega) _ _ _ _) rfl fun x1 => ?_
  refine L_br (t := 24) (n := 12) rfl rfl (fun _ => ?_) (fun _ => ?_)
  · refine L_ic (pc' := 25) rfl q1_m1 rfl ?_
    exact L_ret rfl ret_i rfl
  · refine L_s (pc' := 13) rfl rfl ?_
    refine L_s (pc' := 14) rfl rfl ?_
    refine L_s (pc' := 15) rfl rfl ?_
    refine L_s (pc' := 16) rfl rfl ?_
    refine L_s (pc' := 18) rfl rfl ?_
    refine L_cig (pc' := 21) (as := [.ref 0, .int v1, .int v2, .int v3, .int v4]) (rest := []) rfl rfl (e_x_findTurns (by omega) F _ _ _ _ _) rfl fun x2 g3 => ?_
    refine L_br (t := 26) (n := 24) rfl rfl (fun _ => ?_) (fun _ => ?_)
    · refine L_s (pc' := 27) rfl rfl ?_
      refine L_gf (pc' := 30) rfl fr_0_6 rfl ?_
      refine L_s (pc' := 32) rfl rfl ?_
      refine L_ci (pc' := 35) (as := [.ref 208, .int v5]) (rest := []) rfl rfl (e_turns_nodeAt (by omega) _ _) rfl fun x4 => ?_
      exact L_ret rfl ret_i rfl
    · refine L_ic (pc' := 25) rfl q1_m1 rfl ?_
      exact L_ret rfl ret_i rfl
def gauges_addRow (v1 : Int32) (v2 : Int32) (v3 : Int32) (v4 : Int32) (g : Sg) : Option (Int32 × Sg) :=
  (if 150 ≤ (g 42 0) then
    (some ((g 42 0), g))
  else
    (if inb (g 42 0) 150 = true then lt1 (up2 g 43 (Int32.toNatClampNeg (g 42 0)) v1) (fun g1 => (if inb (g1 42 0) 150 = true then lt1 (up2 g1 44 (Int32.toNatClampNeg (g1 42 0)) v2) (fun g2 => (if inb (g2 42 0) 150 = true then lt1 (up2 g2 45 (Int32.toNatClampNeg (g2 42 0)) v3) (fun g3 => (if inb (g3 42 0) 150 = true then lt1 (up2 g3 46 (Int32.toNatClampNeg (g3 42 0)) v4) (fun g4 => lt1 (up2 g4 42 0 ((g4 42 0) + 1)) (fun g5 => (some ((g5 42 0), g5)))) else none)) else none)) else none)) else none))
theorem e_gauges_addRow {X : Xx} {d : Nat} (hd : 1 ≤ d) (v1 : Int32) (v2 : Int32) (v3 : Int32) (v4 : Int32) (g : Sg) : ∀ r, gauges_addRow v1 v2 v3 v4 g = some r → EvM zft mtl X d 1 [.ref 42, .int v1, .int v2, .int v3, .int v4] (SHF, g) ((fun r : Int32 × Sg => ((some (.int r.1), (SHF, r.2)) : Out)) r) := by
  obtain ⟨d, rfl⟩ : ∃ d0, d = d0 + 1 := ⟨d - 1, by omega⟩
  have hd : 0 ≤ d := by omega
  refine E_in (f := (fun r : Int32 × Sg => ((some (.int r.1), (SHF, r.2)) : Out))) rfl (Nat.le_of_ble_eq_true rfl) ?_
  unfold gauges_addRow
  change Lt X d (some .int) k_1 _ 0 [some (.ref 42), some (.int v1), some (.int v2), some (.int v3), some (.int v4)] [] g _
  refine L_s (pc' := 1) rfl rfl ?_
  refine L_gf (pc' := 4) rfl fi_42_0 rfl ?_
  refine L_si (pc' := 7) rfl q3_150 rfl ?_
  refine L_br (t := 61) (n := 10) rfl rfl (fun _ => ?_) (fun _ => ?_)
  · refine L_s (pc' := 62) rfl rfl ?_
    refine L_gf (pc' := 65) rfl fi_42_0 rfl ?_
    exact L_ret rfl ret_i rfl
  · refine L_s (pc' := 11) rfl rfl ?_
    refine L_gf (pc' := 14) rfl fr_42_1 rfl ?_
    refine L_s (pc' := 15) rfl rfl ?_
    refine L_gf (pc' := 18) rfl fi_42_0 rfl ?_
    refine L_s (pc' := 19) rfl rfl ?_
    refine L_wI (pc' := 20) rfl sh_43 (by decide) rfl ?_
    refine L_let fun g1 _ => ?_
    refine L_s (pc' := 21) rfl rfl ?_
    refine L_gf (pc' := 24) rfl fr_42_2 rfl ?_
    refine L_s (pc' := 25) rfl rfl ?_
    refine L_gf (pc' := 28) rfl fi_42_0 rfl ?_
    refine L_s (pc' := 29) rfl rfl ?_
    refine L_wI (pc' := 30) rfl sh_44 (by decide) rfl ?_
    refine L_let fun g2 _ => ?_
    refine L_s (pc' := 31) rfl rfl ?_
    refine L_gf (pc' := 34) rfl fr_42_3 rfl ?_
    refine L_s (pc' := 35) rfl rfl ?_
    refine L_gf (pc' := 38) rfl fi_42_0 rfl ?_
    refine L_s (pc' := 39) rfl rfl ?_
    refine L_wI (pc' := 40) rfl sh_45 (by decide) rfl ?_
    refine L_let fun g3 _ => ?_
    refine L_s (pc' := 41) rfl rfl ?_
    refine L_gf (pc' := 44) rfl fr_42_4 rfl ?_
    refine L_s (pc' := 45) rfl rfl ?_
    refine L_gf (pc' := 48) rfl fi_42_0 rfl ?_
    refine L_s (pc' := 50) rfl rfl ?_
    refine L_wI (pc' := 51) rfl sh_46 (by decide) rfl ?_
    refine L_let fun g4 _ => ?_
    refine L_s (pc' := 52) rfl rfl ?_
    refine L_s (pc' := 53) rfl rfl ?_
    refine L_gf (pc' := 56) rfl fi_42_0 rfl ?_
    refine L_ic (pc' := 57) rfl q1_1 rfl ?_
    refine L_s (pc' := 58) rfl rfl ?_
    refine L_pf (pc' := 61) rfl sh_42 (by decide) rfl rfl ?_
    refine L_let fun g5 _ => ?_
    refine L_s (pc' := 62) rfl rfl ?_
    refine L_gf (pc' := 65) rfl fi_42_0 rfl ?_
    exact L_ret rfl ret_i rfl
def x_gauge (v1 : Int32) (v2 : Int32) (v3 : Int32) (v4 : Int32) (g : Sg) : Option (Int32 × Sg) :=
  (if 150 ≤ (g 42 0) then
    (some ((-1), g))
  else
    Option.bind (net_hasChannel v1 g) (fun x1 => (if ¬ x1 = 0 then
      Option.bind (x_within v2 0 (g 2 0) g) (fun x2 => (if ¬ x2 = 0 then
        Option.bind (x_within v3 0 9999 g) (fun x3 => (if x3 = 0 then
          (some ((-1), g))
        else
          Option.bind (x_within v4 0 9999 g) (fun x4 => (if ¬ x4 = 0 then
            Option.bind (gauges_addRow v1 v2 v3 v4 g) (fun (x5, g6) => (some (x5, g6)))
          else
            (some ((-1), g))))))
      else
        (some ((-1), g))))
    else
      (some ((-1), g)))))
theorem e_x_gauge {X : Xx} {d : Nat} (hd : 2 ≤ d) (v1 : Int32) (v2 : Int32) (v3 : Int32) (v4 : Int32) (g : Sg) : ∀ r, x_gauge v1 v2 v3 v4 g = some r → EvM zft mtl X d 134 [.ref 0, .int v1, .int v2, .int v3, .int v4] (SHF, g) ((fun r : Int32 × Sg => ((some (.int r.1), (SHF, r.2)) : Out)) r) := by
  obtain ⟨d, rfl⟩ : ∃ d0, d = d0 + 1 := ⟨d - 1, by omega⟩
  have hd : 1 ≤ d := by omega
  refine E_in (f := (fun r : Int32 × Sg => ((some (.int r.1), (SHF, r.2)) : Out))) rfl (Nat.le_of_ble_eq_true rfl) ?_
  unfold x_gauge
  change Lt X d (some .int) k_134 _ 0 [some (.ref 0), some (.int v1), some (.int v2), some (.int v3), some (.int v4), none] [] g _
  refine L_s (pc' := 1) rfl rfl ?_
  refine L_gf (pc' := 4) rfl fr_0_0 rfl ?_
  refine L_gf (pc' := 7) rfl fr_1_3 rfl ?_
  refine L_s (pc' := 9) (L' := [some (.ref 0), some (.int v1), some (.int v2), some (.int v3), some (.int v4), some (.ref 42)]) rfl rfl ?_
  refine L_s (pc' := 11) rfl rfl ?_
  refine L_gf (pc' := 14) rfl fi_42_0 rfl ?_
  refine L_si (pc' := 17) rfl q3_150 rfl ?_
  refine L_br (t := 34) (n := 20) rfl rfl (fun _ => ?_) (fun _ => ?_)
  · refine L_ic (pc' := 35) rfl q1_m1 rfl ?_
    exact L_ret rfl ret_i rfl
  · refine L_s (pc' := 21) rfl rfl ?_
    refine L_gf (pc' := 24) rfl fr_0_0 rfl ?_
    refine L_gf (pc' := 27) rfl fr_1_0 rfl ?_
    refine L_s (pc' := 28) rfl rfl ?_
    refine L_ci (pc' := 31) (as := [.ref 2, .int v1]) (rest := []) rfl rfl (e_net_hasChannel (by omega) _ _) rfl fun x1 => ?_
    refine L_br (t := 36) (n := 34) rfl rfl (fun _ => ?_) (fun _ => ?_)
    · refine L_s (pc' := 37) rfl rfl ?_
      refine L_ic (pc' := 38) rfl q1_0 rfl ?_
      refine L_s (pc' := 39) rfl rfl ?_
      refine L_gf (pc' := 42) rfl fr_0_0 rfl ?_
      refine L_gf (pc' := 45) rfl fr_1_0 rfl ?_
      refine L_gf (pc' := 48) rfl fi_2_0 rfl ?_
      refine L_ci (pc' := 51) (as := [.int v2, .int 0, .int (g 2 0)]) (rest := []) rfl rfl (e_x_within (by omega) _ _ _ _) rfl fun x2 => ?_
      refine L_br (t := 56) (n := 54) rfl rfl (fun _ => ?_) (fun _ => ?_)
      · refine L_s (pc' := 57) rfl rfl ?_
        refine L_ic (pc' := 58) rfl q1_0 rfl ?_
        refine L_si (pc' := 61) rfl q3_9999 rfl ?_
        refine L_ci (pc' := 64) (as := [.int v3, .int 0, .int 9999]) (rest := []) rfl rfl (e_x_within (by omega) _ _ _ _) rfl fun x3 => ?_
        refine L_br (t := 79) (n := 67) rfl rfl (fun _ => ?_) (fun _ => ?_)
        · refine L_ic (pc' := 80) rfl q1_m1 rfl ?_
          exact L_ret rfl ret_i rfl
        · refine L_s (pc' := 69) rfl rfl ?_
          refine L_ic (pc' := 70) rfl q1_0 rfl ?_
          refine L_si (pc' := 73) rfl q3_9999 rfl ?_
          refine L_ci (pc' := 76) (as := [.int v4, .int 0, .int 9999]) (rest := []) rfl rfl (e_x_within (by omega) _ _ _ _) rfl fun x4 => ?_
          refine L_br (t := 81) (n := 79) rfl rfl (fun _ => ?_) (fun _ => ?_)
          · refine L_s (pc' := 83) rfl rfl ?_
            refine L_s (pc' := 84) rfl rfl ?_
            refine L_s (pc' := 85) rfl rfl ?_
            refine L_s (pc' := 86) rfl rfl ?_
            refine L_s (pc' := 88) rfl rfl ?_
            refine L_cig (pc' := 91) (as := [.ref 42, .int v1, .int v2, .int v3, .int v4]) (rest := []) rfl rfl (e_gauges_addRow (by omega) _ _ _ _ _) rfl fun x5 g6 => ?_
            exact L_ret rfl ret_i rfl
          · refine L_ic (pc' := 80) rfl q1_m1 rfl ?_
            exact L_ret rfl ret_i rfl
      · refine L_ic (pc' := 55) rfl q1_m1 rfl ?_
        exact L_ret rfl ret_i rfl
    · refine L_ic (pc' := 35) rfl q1_m1 rfl ?_
      exact L_ret rfl ret_i rfl
def gauges_latestRow_7 : Nat → Int32 → Int32 → Int32 → Sg → Option (Int32)
  | 0, _, _, _, _ => none
  | n + 1, v1, v2, v3, g =>
    (if v3 < 0 then
      (some (-1))
    else
      (if inb v3 150 = true then (if ¬ (g 43 (Int32.toNatClampNeg v3)) = v1 then
        (gauges_latestRow_7 n v1 v2 (v3 + (-1)) g)
      else
        (if inb v3 150 = true then (if ¬ (g 44 (Int32.toNatClampNeg v3)) = v2 then
          (gauges_latestRow_7 n v1 v2 (v3 + (-1)) g)
        else
          (some v3)) else none)) else none))
def gauges_latestRow (F : Nat) (v1 : Int32) (v2 : Int32) (g : Sg) : Option (Int32) :=
  lt1 (((g 42 0) - 1) : Int32) (fun x1 => (gauges_latestRow_7 F v1 v2 x1 g))
theorem p_gauges_latestRow_7 {X : Xx} {d : Nat} {g : Sg} (hd : 0 ≤ d) : ∀ (n : Nat) (v1 : Int32) (v2 : Int32) (v3 : Int32), Lt X d (some .int) k_2 (fun r : Int32 => ((some (.int r), (SHF, g)) : Out)) 7 [some (.ref 42), some (.int v1), some (.int v2), some (.int v3)] [] g (gauges_latestRow_7 n v1 v2 v3 g) := by
  intro n
  induction n with
  | zero => intros; exact L_none
  | succ n ih =>
    intro v1 v2 v3
    show Lt X d (some .int) k_2 (fun r : Int32 => ((some (.int r), (SHF, g)) : Out)) 7 [some (.ref 42), some (.int v1), some (.int v2), some (.int v3)] [] g (
      (if v3 < 0 then
        (some (-1))
      else
        (if inb v3 150 = true then (if ¬ (g 43 (Int32.toNatClampNeg v3)) = v1 then
          (gauges_latestRow_7 n v1 v2 (v3 + (-1)) g)
        else
          (if inb v3 150 = true then (if ¬ (g 44 (Int32.toNatClampNeg v3)) = v2 then
            (gauges_latestRow_7 n v1 v2 (v3 + (-1)) g)
          else
            (some v3)) else none)) else none)))
    refine L_s (pc' := 8) rfl rfl ?_
    refine L_br (t := 39) (n := 11) rfl rfl (fun _ => ?_) (fun _ => ?_)
    · refine L_ic (pc' := 40) rfl q1_m1 rfl ?_
      exact L_ret rfl ret_i rfl
    · refine L_s (pc' := 12) rfl rfl ?_
      refine L_gf (pc' := 15) rfl fr_42_1 rfl ?_
      refine L_s (pc' := 16) rfl rfl ?_
      refine L_rI (pc' := 17) rfl sh_43 (by decide) rfl ?_
      refine L_s (pc' := 18) rfl rfl ?_
      refine L_br (t := 33) (n := 21) rfl rfl (fun _ => ?_) (fun _ => ?_)
      · refine L_ii (pc' := 36) (L' := [some (.ref 42), some (.int v1), some (.int v2), some (.int (v3 + (-1)))]) rfl rfl q1_m1 rfl rfl rfl ?_
        refine L_s (pc' := 7) rfl rfl ?_
        exact ih _ _ _
      · refine L_s (pc' := 22) rfl rfl ?_
        refine L_gf (pc' := 25) rfl fr_42_2 rfl ?_
        refine L_s (pc' := 26) rfl rfl ?_
        refine L_rI (pc' := 27) rfl sh_44 (by decide) rfl ?_
        refine L_s (pc' := 28) rfl rfl ?_
        refine L_br (t := 33) (n := 31) rfl rfl (fun _ => ?_) (fun _ => ?_)
        · refine L_ii (pc' := 36) (L' := [some (.ref 42), some (.int v1), some (.int v2), some (.int (v3 + (-1)))]) rfl rfl q1_m1 rfl rfl rfl ?_
          refine L_s (pc' := 7) rfl rfl ?_
          exact ih _ _ _
        · refine L_s (pc' := 32) rfl rfl ?_
          exact L_ret rfl ret_i rfl
theorem e_gauges_latestRow {X : Xx} {d : Nat} (hd : 1 ≤ d) (F : Nat) (v1 : Int32) (v2 : Int32) (g : Sg) : ∀ r, gauges_latestRow F v1 v2 g = some r → EvM zft mtl X d 2 [.ref 42, .int v1, .int v2] (SHF, g) ((fun r : Int32 => ((some (.int r), (SHF, g)) : Out)) r) := by
  obtain ⟨d, rfl⟩ : ∃ d0, d = d0 + 1 := ⟨d - 1, by omega⟩
  have hd : 0 ≤ d := by omega
  refine E_in (f := (fun r : Int32 => ((some (.int r), (SHF, g)) : Out))) rfl (Nat.le_of_ble_eq_true rfl) ?_
  unfold gauges_latestRow
  change Lt X d (some .int) k_2 _ 0 [some (.ref 42), some (.int v1), some (.int v2), none] [] g _
  refine L_s (pc' := 1) rfl rfl ?_
  refine L_gf (pc' := 4) rfl fi_42_0 rfl ?_
  refine L_ic (pc' := 5) rfl q1_1 rfl ?_
  refine L_s (pc' := 6) rfl rfl ?_
  refine L_li fun x1 _ => ?_
  refine L_s (pc' := 7) (L' := [some (.ref 42), some (.int v1), some (.int v2), some (.int x1)]) rfl rfl ?_
  exact p_gauges_latestRow_7 hd F _ _ _
def gauges_counts (F : Nat) (v1 : Int32) (v2 : Int32) (g : Sg) : Option (Int32) :=
  (if inb v1 150 = true then (if ¬ (g 43 (Int32.toNatClampNeg v1)) = v2 then
    (some 0)
  else
    (if inb v1 150 = true then Option.bind (gauges_latestRow F v2 (g 44 (Int32.toNatClampNeg v1)) g) (fun x1 => (if ¬ x1 = v1 then
      (some 0)
    else
      (some 1))) else none)) else none)
theorem e_gauges_counts {X : Xx} {d : Nat} (hd : 2 ≤ d) (F : Nat) (v1 : Int32) (v2 : Int32) (g : Sg) : ∀ r, gauges_counts F v1 v2 g = some r → EvM zft mtl X d 3 [.ref 42, .int v1, .int v2] (SHF, g) ((fun r : Int32 => ((some (.int r), (SHF, g)) : Out)) r) := by
  obtain ⟨d, rfl⟩ : ∃ d0, d = d0 + 1 := ⟨d - 1, by omega⟩
  have hd : 1 ≤ d := by omega
  refine E_in (f := (fun r : Int32 => ((some (.int r), (SHF, g)) : Out))) rfl (Nat.le_of_ble_eq_true rfl) ?_
  unfold gauges_counts
  change Lt X d (some .boolean) k_3 _ 0 [some (.ref 42), some (.int v1), some (.int v2)] [] g _
  refine L_s (pc' := 1) rfl rfl ?_
  refine L_gf (pc' := 4) rfl fr_42_1 rfl ?_
  refine L_s (pc' := 5) rfl rfl ?_
  refine L_rI (pc' := 6) rfl sh_43 (by decide) rfl ?_
  refine L_s (pc' := 7) rfl rfl ?_
  refine L_br (t := 29) (n := 10) rfl rfl (fun _ => ?_) (fun _ => ?_)
  · refine L_ic (pc' := 30) rfl q1_0 rfl ?_
    exact L_ret rfl (ret_z (by decide)) rfl
  · refine L_s (pc' := 11) rfl rfl ?_
    refine L_s (pc' := 12) rfl rfl ?_
    refine L_s (pc' := 13) rfl rfl ?_
    refine L_gf (pc' := 16) rfl fr_42_2 rfl ?_
    refine L_s (pc' := 17) rfl rfl ?_
    refine L_rI (pc' := 18) rfl sh_44 (by decide) rfl ?_
    refine L_ci (pc' := 21) (as := [.ref 42, .int v2, .int (g 44 (Int32.toNatClampNeg v1))]) (rest := []) rfl rfl (e_gauges_latestRow (by omega) F _ _ _) rfl fun x1 => ?_
    refine L_s (pc' := 22) rfl rfl ?_
    refine L_br (t := 29) (n := 25) rfl rfl (fun _ => ?_) (fun _ => ?_)
    · refine L_ic (pc' := 30) rfl q1_0 rfl ?_
      exact L_ret rfl (ret_z (by decide)) rfl
    · refine L_ic (pc' := 26) rfl q1_1 rfl ?_
      refine L_s (pc' := 30) rfl rfl ?_
      exact L_ret rfl (ret_z (by decide)) rfl
def gauges_rowsThatCount_4 (F : Nat) : Nat → Int32 → Int32 → Int32 → Sg → Option (Int32)
  | 0, _, _, _, _ => none
  | n + 1, v1, v2, v3, g =>
    (if (g 42 0) ≤ v3 then
      (some v2)
    else
      Option.bind (gauges_counts F v3 v1 g) (fun x1 => (if x1 = 0 then
        (gauges_rowsThatCount_4 F n v1 v2 (v3 + 1) g)
      else
        (gauges_rowsThatCount_4 F n v1 (v2 + 1) (v3 + 1) g))))
def gauges_rowsThatCount (F : Nat) (v1 : Int32) (g : Sg) : Option (Int32) :=
  (gauges_rowsThatCount_4 F F v1 0 0 g)
theorem p_gauges_rowsThatCount_4 {X : Xx} {d : Nat} {g : Sg} (hd : 2 ≤ d) (F : Nat) : ∀ (n : Nat) (v1 : Int32) (v2 : Int32) (v3 : Int32), Lt X d (some .int) k_8 (fun r : Int32 => ((some (.int r), (SHF, g)) : Out)) 4 [some (.ref 42), some (.int v1), some (.int v2), some (.int v3)] [] g (gauges_rowsThatCount_4 F n v1 v2 v3 g) := by
  intro n
  induction n with
  | zero => intros; exact L_none
  | succ n ih =>
    intro v1 v2 v3
    show Lt X d (some .int) k_8 (fun r : Int32 => ((some (.int r), (SHF, g)) : Out)) 4 [some (.ref 42), some (.int v1), some (.int v2), some (.int v3)] [] g (
      (if (g 42 0) ≤ v3 then
        (some v2)
      else
        Option.bind (gauges_counts F v3 v1 g) (fun x1 => (if x1 = 0 then
          (gauges_rowsThatCount_4 F n v1 v2 (v3 + 1) g)
        else
          (gauges_rowsThatCount_4 F n v1 (v2 + 1) (v3 + 1) g)))))
    refine L_s (pc' := 5) rfl rfl ?_
    refine L_s (pc' := 6) rfl rfl ?_
    refine L_gf (pc' := 9) rfl fi_42_0 rfl ?_
    refine L_br (t := 30) (n := 12) rfl rfl (fun _ => ?_) (fun _ => ?_)
    · refine L_s (pc' := 31) rfl rfl ?_
      exact L_ret rfl ret_i rfl
    · refine L_s (pc' := 13) rfl rfl ?_
      refine L_s (pc' := 14) rfl rfl ?_
      refine L_s (pc' := 15) rfl rfl ?_
      refine L_ci (pc' := 18) (as := [.ref 42, .int v3, .int v1]) (rest := []) rfl rfl (e_gauges_counts (by omega) F _ _ _) rfl fun x1 => ?_
      refine L_br (t := 24) (n := 21) rfl rfl (fun _ => ?_) (fun _ => ?_)
      · refine L_ii (pc' := 27) (L' := [some (.ref 42), some (.int v1), some (.int v2), some (.int (v3 + 1))]) rfl rfl q1_1 rfl rfl rfl ?_
        refine L_s (pc' := 4) rfl rfl ?_
        exact ih _ _ _
      · refine L_ii (pc' := 24) (L' := [some (.ref 42), some (.int v1), some (.int (v2 + 1)), some (.int v3)]) rfl rfl q1_1 rfl rfl rfl ?_
        refine L_ii (pc' := 27) (L' := [some (.ref 42), some (.int v1), some (.int (v2 + 1)), some (.int (v3 + 1))]) rfl rfl q1_1 rfl rfl rfl ?_
        refine L_s (pc' := 4) rfl rfl ?_
        exact ih _ _ _
theorem e_gauges_rowsThatCount {X : Xx} {d : Nat} (hd : 3 ≤ d) (F : Nat) (v1 : Int32) (g : Sg) : ∀ r, gauges_rowsThatCount F v1 g = some r → EvM zft mtl X d 8 [.ref 42, .int v1] (SHF, g) ((fun r : Int32 => ((some (.int r), (SHF, g)) : Out)) r) := by
  obtain ⟨d, rfl⟩ : ∃ d0, d = d0 + 1 := ⟨d - 1, by omega⟩
  have hd : 2 ≤ d := by omega
  refine E_in (f := (fun r : Int32 => ((some (.int r), (SHF, g)) : Out))) rfl (Nat.le_of_ble_eq_true rfl) ?_
  unfold gauges_rowsThatCount
  change Lt X d (some .int) k_8 _ 0 [some (.ref 42), some (.int v1), none, none] [] g _
  refine L_ic (pc' := 1) rfl q1_0 rfl ?_
  refine L_s (pc' := 2) (L' := [some (.ref 42), some (.int v1), some (.int 0), none]) rfl rfl ?_
  refine L_ic (pc' := 3) rfl q1_0 rfl ?_
  refine L_s (pc' := 4) (L' := [some (.ref 42), some (.int v1), some (.int 0), some (.int 0)]) rfl rfl ?_
  exact p_gauges_rowsThatCount_4 hd F F _ _ _
def gauges_leastThatCloses (v2 : Int32) (v3 : Int32) (g : Sg) : Option (Int32) :=
  (if inb v2 150 = true then lt1 ((g 43 (Int32.toNatClampNeg v2)) : Int32) (fun x1 => Option.bind (net_hasChannel x1 g) (fun x2 => (if x2 = 0 then
    (some 0)
  else
    (if inb v2 150 = true then (if inb v2 150 = true then (if inb x1 14 = true then (some (((g 45 (Int32.toNatClampNeg v2)) - (((g 45 (Int32.toNatClampNeg v2)) * (g 12 (Int32.toNatClampNeg x1))) / 1000)) - v3)) else none) else none) else none)))) else none)
theorem e_gauges_leastThatCloses {X : Xx} {d : Nat} (hd : 2 ≤ d) (v2 : Int32) (v3 : Int32) (g : Sg) : ∀ r, gauges_leastThatCloses v2 v3 g = some r → EvM zft mtl X d 4 [.ref 42, .ref 2, .int v2, .int v3] (SHF, g) ((fun r : Int32 => ((some (.int r), (SHF, g)) : Out)) r) := by
  obtain ⟨d, rfl⟩ : ∃ d0, d = d0 + 1 := ⟨d - 1, by omega⟩
  have hd : 1 ≤ d := by omega
  refine E_in (f := (fun r : Int32 => ((some (.int r), (SHF, g)) : Out))) rfl (Nat.le_of_ble_eq_true rfl) ?_
  unfold gauges_leastThatCloses
  change Lt X d (some .int) k_4 _ 0 [some (.ref 42), some (.ref 2), some (.int v2), some (.int v3), none] [] g _
  refine L_s (pc' := 1) rfl rfl ?_
  refine L_gf (pc' := 4) rfl fr_42_1 rfl ?_
  refine L_s (pc' := 5) rfl rfl ?_
  refine L_rI (pc' := 6) rfl sh_43 (by decide) rfl ?_
  refine L_li fun x1 _ => ?_
  refine L_s (pc' := 8) (L' := [some (.ref 42), some (.ref 2), some (.int v2), some (.int v3), some (.int x1)]) rfl rfl ?_
  refine L_s (pc' := 9) rfl rfl ?_
  refine L_s (pc' := 11) rfl rfl ?_
  refine L_ci (pc' := 14) (as := [.ref 2, .int x1]) (rest := []) rfl rfl (e_net_hasChannel (by omega) _ _) rfl fun x2 => ?_
  refine L_br (t := 47) (n := 17) rfl rfl (fun _ => ?_) (fun _ => ?_)
  · refine L_ic (pc' := 48) rfl q1_0 rfl ?_
    exact L_ret rfl ret_i rfl
  · refine L_s (pc' := 18) rfl rfl ?_
    refine L_gf (pc' := 21) rfl fr_42_3 rfl ?_
    refine L_s (pc' := 22) rfl rfl ?_
    refine L_rI (pc' := 23) rfl sh_45 (by decide) rfl ?_
    refine L_s (pc' := 24) rfl rfl ?_
    refine L_gf (pc' := 27) rfl fr_42_3 rfl ?_
    refine L_s (pc' := 28) rfl rfl ?_
    refine L_rI (pc' := 29) rfl sh_45 (by decide) rfl ?_
    refine L_s (pc' := 30) rfl rfl ?_
    refine L_gf (pc' := 33) rfl fr_2_10 rfl ?_
    refine L_s (pc' := 35) rfl rfl ?_
    refine L_rI (pc' := 36) rfl sh_12 (by decide) rfl ?_
    refine L_s (pc' := 37) rfl rfl ?_
    refine L_si (pc' := 40) rfl q3_1000 rfl ?_
    refine L_dvk (pc' := 41) rfl (by decide) rfl ?_
    refine L_s (pc' := 42) rfl rfl ?_
    refine L_s (pc' := 43) rfl rfl ?_
    refine L_s (pc' := 44) rfl rfl ?_
    refine L_s (pc' := 48) rfl rfl ?_
    exact L_ret rfl ret_i rfl
def gauges_mostThatCloses (v2 : Int32) (v3 : Int32) (g : Sg) : Option (Int32) :=
  (if inb v2 150 = true then lt1 ((g 43 (Int32.toNatClampNeg v2)) : Int32) (fun x1 => Option.bind (net_hasChannel x1 g) (fun x2 => (if x2 = 0 then
    (some 0)
  else
    (if inb v2 150 = true then (if inb v2 150 = true then (if inb x1 14 = true then (some (((g 45 (Int32.toNatClampNeg v2)) - (((g 45 (Int32.toNatClampNeg v2)) * (g 11 (Int32.toNatClampNeg x1))) / 1000)) + v3)) else none) else none) else none)))) else none)
theorem e_gauges_mostThatCloses {X : Xx} {d : Nat} (hd : 2 ≤ d) (v2 : Int32) (v3 : Int32) (g : Sg) : ∀ r, gauges_mostThatCloses v2 v3 g = some r → EvM zft mtl X d 5 [.ref 42, .ref 2, .int v2, .int v3] (SHF, g) ((fun r : Int32 => ((some (.int r), (SHF, g)) : Out)) r) := by
  obtain ⟨d, rfl⟩ : ∃ d0, d = d0 + 1 := ⟨d - 1, by omega⟩
  have hd : 1 ≤ d := by omega
  refine E_in (f := (fun r : Int32 => ((some (.int r), (SHF, g)) : Out))) rfl (Nat.le_of_ble_eq_true rfl) ?_
  unfold gauges_mostThatCloses
  change Lt X d (some .int) k_5 _ 0 [some (.ref 42), some (.ref 2), some (.int v2), some (.int v3), none] [] g _
  refine L_s (pc' := 1) rfl rfl ?_
  refine L_gf (pc' := 4) rfl fr_42_1 rfl ?_
  refine L_s (pc' := 5) rfl rfl ?_
  refine L_rI (pc' := 6) rfl sh_43 (by decide) rfl ?_
  refine L_li fun x1 _ => ?_
  refine L_s (pc' := 8) (L' := [some (.ref 42), some (.ref 2), some (.int v2), some (.int v3), some (.int x1)]) rfl rfl ?_
  refine L_s (pc' := 9) rfl rfl ?_
  refine L_s (pc' := 11) rfl rfl ?_
  refine L_ci (pc' := 14) (as := [.ref 2, .int x1]) (rest := []) rfl rfl (e_net_hasChannel (by omega) _ _) rfl fun x2 => ?_
  refine L_br (t := 47) (n := 17) rfl rfl (fun _ => ?_) (fun _ => ?_)
  · refine L_ic (pc' := 48) rfl q1_0 rfl ?_
    exact L_ret rfl ret_i rfl
  · refine L_s (pc' := 18) rfl rfl ?_
    refine L_gf (pc' := 21) rfl fr_42_3 rfl ?_
    refine L_s (pc' := 22) rfl rfl ?_
    refine L_rI (pc' := 23) rfl sh_45 (by decide) rfl ?_
    refine L_s (pc' := 24) rfl rfl ?_
    refine L_gf (pc' := 27) rfl fr_42_3 rfl ?_
    refine L_s (pc' := 28) rfl rfl ?_
    refine L_rI (pc' := 29) rfl sh_45 (by decide) rfl ?_
    refine L_s (pc' := 30) rfl rfl ?_
    refine L_gf (pc' := 33) rfl fr_2_9 rfl ?_
    refine L_s (pc' := 35) rfl rfl ?_
    refine L_rI (pc' := 36) rfl sh_11 (by decide) rfl ?_
    refine L_s (pc' := 37) rfl rfl ?_
    refine L_si (pc' := 40) rfl q3_1000 rfl ?_
    refine L_dvk (pc' := 41) rfl (by decide) rfl ?_
    refine L_s (pc' := 42) rfl rfl ?_
    refine L_s (pc' := 43) rfl rfl ?_
    refine L_s (pc' := 44) rfl rfl ?_
    refine L_s (pc' := 48) rfl rfl ?_
    exact L_ret rfl ret_i rfl
def gauges_rowsThatClose_48 (k_6 : Int32 → Int32 → Int32 → Int32 → Sg → Option (Int32)) (v2 : Int32) (v3 : Int32) (v4 : Int32) (v5 : Int32) (s0 : Int32) (g : Sg) : Option (Int32) :=
  (if s0 = 0 then
    lt1 ((v4 + 0) : Int32) (fun x1 => (k_6 v2 v3 x1 (v5 + 1) g))
  else
    (if inb v5 150 = true then Option.bind (gauges_mostThatCloses v5 v3 g) (fun x2 => (if x2 < (g 46 (Int32.toNatClampNeg v5)) then
      lt1 ((v4 + 0) : Int32) (fun x3 => (k_6 v2 v3 x3 (v5 + 1) g))
    else
      lt1 ((v4 + 1) : Int32) (fun x4 => (k_6 v2 v3 x4 (v5 + 1) g)))) else none))
def gauges_rowsThatClose_6 (F : Nat) : Nat → Int32 → Int32 → Int32 → Int32 → Sg → Option (Int32)
  | 0, _, _, _, _, _ => none
  | n + 1, v2, v3, v4, v5, g =>
    (if (g 42 0) ≤ v5 then
      (some v4)
    else
      Option.bind (gauges_counts F v5 v2 g) (fun x1 => (if x1 = 0 then
        (gauges_rowsThatClose_6 F n v2 v3 v4 (v5 + 1) g)
      else
        (if inb v5 150 = true then Option.bind (gauges_leastThatCloses v5 v3 g) (fun x2 => (if (g 46 (Int32.toNatClampNeg v5)) < x2 then
          (gauges_rowsThatClose_48 (fun v2 v3 v4 v5 g0 => gauges_rowsThatClose_6 F n v2 v3 v4 v5 g0) v2 v3 v4 v5 0 g)
        else
          (gauges_rowsThatClose_48 (fun v2 v3 v4 v5 g0 => gauges_rowsThatClose_6 F n v2 v3 v4 v5 g0) v2 v3 v4 v5 1 g))) else none))))
def gauges_rowsThatClose (F : Nat) (v2 : Int32) (v3 : Int32) (g : Sg) : Option (Int32) :=
  (gauges_rowsThatClose_6 F F v2 v3 0 0 g)
theorem p_gauges_rowsThatClose_48 {X : Xx} {d : Nat} {g : Sg} {k_6 : Int32 → Int32 → Int32 → Int32 → Sg → Option (Int32)} (hd : 2 ≤ d) (hk_6 : ∀ (v2 : Int32) (v3 : Int32) (v4 : Int32) (v5 : Int32), Lt X d (some .int) k_9 (fun r : Int32 => ((some (.int r), (SHF, g)) : Out)) 6 [some (.ref 42), some (.ref 2), some (.int v2), some (.int v3), some (.int v4), some (.int v5), none] [] g (k_6 v2 v3 v4 v5 g)) (v2 : Int32) (v3 : Int32) (v4 : Int32) (v5 : Int32) (s0 : Int32) : Lt X d (some .int) k_9 (fun r : Int32 => ((some (.int r), (SHF, g)) : Out)) 48 [some (.ref 42), some (.ref 2), some (.int v2), some (.int v3), some (.int v4), some (.int v5), none] [.int s0] g (gauges_rowsThatClose_48 k_6 v2 v3 v4 v5 s0 g) := by
  unfold gauges_rowsThatClose_48
  refine L_s (pc' := 50) (L' := [some (.ref 42), some (.ref 2), some (.int v2), some (.int v3), some (.int v4), some (.int v5), some (.int s0)]) rfl rfl ?_
  refine L_s (pc' := 52) rfl rfl ?_
  refine L_s (pc' := 54) rfl rfl ?_
  refine L_br (t := 79) (n := 57) rfl rfl (fun _ => ?_) (fun _ => ?_)
  · refine L_ic (pc' := 80) rfl q1_0 rfl ?_
    refine L_s (pc' := 81) rfl rfl ?_
    refine L_li fun x1 _ => ?_
    refine L_s (pc' := 83) (L' := [some (.ref 42), some (.ref 2), some (.int v2), some (.int v3), some (.int x1), some (.int v5), some (.int s0)]) rfl rfl ?_
    refine L_ii (pc' := 86) (L' := [some (.ref 42), some (.ref 2), some (.int v2), some (.int v3), some (.int x1), some (.int (v5 + 1)), some (.int s0)]) rfl rfl q1_1 rfl rfl rfl ?_
    refine L_s (pc' := 6) rfl rfl ?_
    refine L_wk (L' := [some (.ref 42), some (.ref 2), some (.int v2), some (.int v3), some (.int x1), some (.int (v5 + 1)), none]) (wk_s (wk_s (wk_s (wk_s (wk_s (wk_s (wk_n wk_nil))))))) ?_
    exact hk_6 _ _ _ _
  · refine L_s (pc' := 58) rfl rfl ?_
    refine L_gf (pc' := 61) rfl fr_42_4 rfl ?_
    refine L_s (pc' := 63) rfl rfl ?_
    refine L_rI (pc' := 64) rfl sh_46 (by decide) rfl ?_
    refine L_s (pc' := 65) rfl rfl ?_
    refine L_s (pc' := 66) rfl rfl ?_
    refine L_s (pc' := 68) rfl rfl ?_
    refine L_s (pc' := 69) rfl rfl ?_
    refine L_ci (pc' := 72) (as := [.ref 42, .ref 2, .int v5, .int v3]) (rest := [.int (g 46 (Int32.toNatClampNeg v5)), .int v4]) rfl rfl (e_gauges_mostThatCloses (by omega) _ _ _) rfl fun x2 => ?_
    refine L_br (t := 79) (n := 75) rfl rfl (fun _ => ?_) (fun _ => ?_)
    · refine L_ic (pc' := 80) rfl q1_0 rfl ?_
      refine L_s (pc' := 81) rfl rfl ?_
      refine L_li fun x3 _ => ?_
      refine L_s (pc' := 83) (L' := [some (.ref 42), some (.ref 2), some (.int v2), some (.int v3), some (.int x3), some (.int v5), some (.int s0)]) rfl rfl ?_
      refine L_ii (pc' := 86) (L' := [some (.ref 42), some (.ref 2), some (.int v2), some (.int v3), some (.int x3), some (.int (v5 + 1)), some (.int s0)]) rfl rfl q1_1 rfl rfl rfl ?_
      refine L_s (pc' := 6) rfl rfl ?_
      refine L_wk (L' := [some (.ref 42), some (.ref 2), some (.int v2), some (.int v3), some (.int x3), some (.int (v5 + 1)), none]) (wk_s (wk_s (wk_s (wk_s (wk_s (wk_s (wk_n wk_nil))))))) ?_
      exact hk_6 _ _ _ _
    · refine L_ic (pc' := 76) rfl q1_1 rfl ?_
      refine L_s (pc' := 80) rfl rfl ?_
      refine L_s (pc' := 81) rfl rfl ?_
      refine L_li fun x4 _ => ?_
      refine L_s (pc' := 83) (L' := [some (.ref 42), some (.ref 2), some (.int v2), some (.int v3), some (.int x4), some (.int v5), some (.int s0)]) rfl rfl ?_
      refine L_ii (pc' := 86) (L' := [some (.ref 42), some (.ref 2), some (.int v2), some (.int v3), some (.int x4), some (.int (v5 + 1)), some (.int s0)]) rfl rfl q1_1 rfl rfl rfl ?_
      refine L_s (pc' := 6) rfl rfl ?_
      refine L_wk (L' := [some (.ref 42), some (.ref 2), some (.int v2), some (.int v3), some (.int x4), some (.int (v5 + 1)), none]) (wk_s (wk_s (wk_s (wk_s (wk_s (wk_s (wk_n wk_nil))))))) ?_
      exact hk_6 _ _ _ _
theorem p_gauges_rowsThatClose_6 {X : Xx} {d : Nat} {g : Sg} (hd : 2 ≤ d) (F : Nat) : ∀ (n : Nat) (v2 : Int32) (v3 : Int32) (v4 : Int32) (v5 : Int32), Lt X d (some .int) k_9 (fun r : Int32 => ((some (.int r), (SHF, g)) : Out)) 6 [some (.ref 42), some (.ref 2), some (.int v2), some (.int v3), some (.int v4), some (.int v5), none] [] g (gauges_rowsThatClose_6 F n v2 v3 v4 v5 g) := by
  intro n
  induction n with
  | zero => intros; exact L_none
  | succ n ih =>
    intro v2 v3 v4 v5
    show Lt X d (some .int) k_9 (fun r : Int32 => ((some (.int r), (SHF, g)) : Out)) 6 [some (.ref 42), some (.ref 2), some (.int v2), some (.int v3), some (.int v4), some (.int v5), none] [] g (
      (if (g 42 0) ≤ v5 then
        (some v4)
      else
        Option.bind (gauges_counts F v5 v2 g) (fun x1 => (if x1 = 0 then
          (gauges_rowsThatClose_6 F n v2 v3 v4 (v5 + 1) g)
        else
          (if inb v5 150 = true then Option.bind (gauges_leastThatCloses v5 v3 g) (fun x2 => (if (g 46 (Int32.toNatClampNeg v5)) < x2 then
            (gauges_rowsThatClose_48 (fun v2 v3 v4 v5 g0 => gauges_rowsThatClose_6 F n v2 v3 v4 v5 g0) v2 v3 v4 v5 0 g)
          else
            (gauges_rowsThatClose_48 (fun v2 v3 v4 v5 g0 => gauges_rowsThatClose_6 F n v2 v3 v4 v5 g0) v2 v3 v4 v5 1 g))) else none)))))
    refine L_s (pc' := 8) rfl rfl ?_
    refine L_s (pc' := 9) rfl rfl ?_
    refine L_gf (pc' := 12) rfl fi_42_0 rfl ?_
    refine L_br (t := 89) (n := 15) rfl rfl (fun _ => ?_) (fun _ => ?_)
    · refine L_s (pc' := 91) rfl rfl ?_
      exact L_ret rfl ret_i rfl
    · refine L_s (pc' := 16) rfl rfl ?_
      refine L_s (pc' := 18) rfl rfl ?_
      refine L_s (pc' := 19) rfl rfl ?_
      refine L_ci (pc' := 22) (as := [.ref 42, .int v5, .int v2]) (rest := []) rfl rfl (e_gauges_counts (by omega) F _ _ _) rfl fun x1 => ?_
      refine L_br (t := 83) (n := 25) rfl rfl (fun _ => ?_) (fun _ => ?_)
      · refine L_ii (pc' := 86) (L' := [some (.ref 42), some (.ref 2), some (.int v2), some (.int v3), some (.int v4), some (.int (v5 + 1)), none]) rfl rfl q1_1 rfl rfl rfl ?_
        refine L_s (pc' := 6) rfl rfl ?_
        exact ih _ _ _ _
      · refine L_s (pc' := 26) rfl rfl ?_
        refine L_gf (pc' := 29) rfl fr_42_4 rfl ?_
        refine L_s (pc' := 31) rfl rfl ?_
        refine L_rI (pc' := 32) rfl sh_46 (by decide) rfl ?_
        refine L_s (pc' := 33) rfl rfl ?_
        refine L_s (pc' := 34) rfl rfl ?_
        refine L_s (pc' := 36) rfl rfl ?_
        refine L_s (pc' := 37) rfl rfl ?_
        refine L_ci (pc' := 40) (as := [.ref 42, .ref 2, .int v5, .int v3]) (rest := [.int (g 46 (Int32.toNatClampNeg v5))]) rfl rfl (e_gauges_leastThatCloses (by omega) _ _ _) rfl fun x2 => ?_
        refine L_br (t := 47) (n := 43) rfl rfl (fun _ => ?_) (fun _ => ?_)
        · refine L_ic (pc' := 48) rfl q1_0 rfl ?_
          exact p_gauges_rowsThatClose_48 hd (fun _ _ _ _ => ih _ _ _ _) _ _ _ _ _
        · refine L_ic (pc' := 44) rfl q1_1 rfl ?_
          refine L_s (pc' := 48) rfl rfl ?_
          exact p_gauges_rowsThatClose_48 hd (fun _ _ _ _ => ih _ _ _ _) _ _ _ _ _
theorem e_gauges_rowsThatClose {X : Xx} {d : Nat} (hd : 3 ≤ d) (F : Nat) (v2 : Int32) (v3 : Int32) (g : Sg) : ∀ r, gauges_rowsThatClose F v2 v3 g = some r → EvM zft mtl X d 9 [.ref 42, .ref 2, .int v2, .int v3] (SHF, g) ((fun r : Int32 => ((some (.int r), (SHF, g)) : Out)) r) := by
  obtain ⟨d, rfl⟩ : ∃ d0, d = d0 + 1 := ⟨d - 1, by omega⟩
  have hd : 2 ≤ d := by omega
  refine E_in (f := (fun r : Int32 => ((some (.int r), (SHF, g)) : Out))) rfl (Nat.le_of_ble_eq_true rfl) ?_
  unfold gauges_rowsThatClose
  change Lt X d (some .int) k_9 _ 0 [some (.ref 42), some (.ref 2), some (.int v2), some (.int v3), none, none, none] [] g _
  refine L_ic (pc' := 1) rfl q1_0 rfl ?_
  refine L_s (pc' := 3) (L' := [some (.ref 42), some (.ref 2), some (.int v2), some (.int v3), some (.int 0), none, none]) rfl rfl ?_
  refine L_ic (pc' := 4) rfl q1_0 rfl ?_
  refine L_s (pc' := 6) (L' := [some (.ref 42), some (.ref 2), some (.int v2), some (.int v3), some (.int 0), some (.int 0), none]) rfl rfl ?_
  exact p_gauges_rowsThatClose_6 hd F F _ _ _ _
def gauges_lack (v2 : Int32) (v3 : Int32) (g : Sg) : Option (Int32) :=
  Option.bind (gauges_leastThatCloses v2 v3 g) (fun x1 => (if inb v2 150 = true then (some (if 0 < (x1 - (g 46 (Int32.toNatClampNeg v2))) then (x1 - (g 46 (Int32.toNatClampNeg v2))) else 0)) else none))
theorem e_gauges_lack {X : Xx} {d : Nat} (hd : 3 ≤ d) (v2 : Int32) (v3 : Int32) (g : Sg) : ∀ r, gauges_lack v2 v3 g = some r → EvM zft mtl X d 6 [.ref 42, .ref 2, .int v2, .int v3] (SHF, g) ((fun r : Int32 => ((some (.int r), (SHF, g)) : Out)) r) := by
  obtain ⟨d, rfl⟩ : ∃ d0, d = d0 + 1 := ⟨d - 1, by omega⟩
  have hd : 2 ≤ d := by omega
  refine E_in (f := (fun r : Int32 => ((some (.int r), (SHF, g)) : Out))) rfl (Nat.le_of_ble_eq_true rfl) ?_
  unfold gauges_lack
  change Lt X d (some .int) k_6 _ 0 [some (.ref 42), some (.ref 2), some (.int v2), some (.int v3)] [] g _
  refine L_ic (pc' := 1) rfl q1_0 rfl ?_
  refine L_s (pc' := 2) rfl rfl ?_
  refine L_s (pc' := 3) rfl rfl ?_
  refine L_s (pc' := 4) rfl rfl ?_
  refine L_s (pc' := 5) rfl rfl ?_
  refine L_ci (pc' := 8) (as := [.ref 42, .ref 2, .int v2, .int v3]) (rest := [.int 0]) rfl rfl (e_gauges_leastThatCloses (by omega) _ _ _) rfl fun x1 => ?_
  refine L_s (pc' := 9) rfl rfl ?_
  refine L_gf (pc' := 12) rfl fr_42_4 rfl ?_
  refine L_s (pc' := 13) rfl rfl ?_
  refine L_rI (pc' := 14) rfl sh_46 (by decide) rfl ?_
  refine L_s (pc' := 15) rfl rfl ?_
  refine L_s (pc' := 18) rfl rfl ?_
  exact L_ret rfl ret_i rfl
def gauges_rowsStolen_6 (F : Nat) : Nat → Int32 → Int32 → Int32 → Int32 → Sg → Option (Int32)
  | 0, _, _, _, _, _ => none
  | n + 1, v2, v3, v4, v5, g =>
    (if (g 42 0) ≤ v5 then
      (some v4)
    else
      Option.bind (gauges_counts F v5 v2 g) (fun x1 => (if x1 = 0 then
        (gauges_rowsStolen_6 F n v2 v3 v4 (v5 + 1) g)
      else
        Option.bind (gauges_lack v5 v3 g) (fun x2 => (if x2 ≤ 0 then
          (gauges_rowsStolen_6 F n v2 v3 v4 (v5 + 1) g)
        else
          (gauges_rowsStolen_6 F n v2 v3 (v4 + 1) (v5 + 1) g))))))
def gauges_rowsStolen (F : Nat) (v2 : Int32) (v3 : Int32) (g : Sg) : Option (Int32) :=
  (gauges_rowsStolen_6 F F v2 v3 0 0 g)
theorem p_gauges_rowsStolen_6 {X : Xx} {d : Nat} {g : Sg} (hd : 3 ≤ d) (F : Nat) : ∀ (n : Nat) (v2 : Int32) (v3 : Int32) (v4 : Int32) (v5 : Int32), Lt X d (some .int) k_10 (fun r : Int32 => ((some (.int r), (SHF, g)) : Out)) 6 [some (.ref 42), some (.ref 2), some (.int v2), some (.int v3), some (.int v4), some (.int v5)] [] g (gauges_rowsStolen_6 F n v2 v3 v4 v5 g) := by
  intro n
  induction n with
  | zero => intros; exact L_none
  | succ n ih =>
    intro v2 v3 v4 v5
    show Lt X d (some .int) k_10 (fun r : Int32 => ((some (.int r), (SHF, g)) : Out)) 6 [some (.ref 42), some (.ref 2), some (.int v2), some (.int v3), some (.int v4), some (.int v5)] [] g (
      (if (g 42 0) ≤ v5 then
        (some v4)
      else
        Option.bind (gauges_counts F v5 v2 g) (fun x1 => (if x1 = 0 then
          (gauges_rowsStolen_6 F n v2 v3 v4 (v5 + 1) g)
        else
          Option.bind (gauges_lack v5 v3 g) (fun x2 => (if x2 ≤ 0 then
            (gauges_rowsStolen_6 F n v2 v3 v4 (v5 + 1) g)
          else
            (gauges_rowsStolen_6 F n v2 v3 (v4 + 1) (v5 + 1) g)))))))
    refine L_s (pc' := 8) rfl rfl ?_
    refine L_s (pc' := 9) rfl rfl ?_
    refine L_gf (pc' := 12) rfl fi_42_0 rfl ?_
    refine L_br (t := 45) (n := 15) rfl rfl (fun _ => ?_) (fun _ => ?_)
    · refine L_s (pc' := 47) rfl rfl ?_
      exact L_ret rfl ret_i rfl
    · refine L_s (pc' := 16) rfl rfl ?_
      refine L_s (pc' := 18) rfl rfl ?_
      refine L_s (pc' := 19) rfl rfl ?_
      refine L_ci (pc' := 22) (as := [.ref 42, .int v5, .int v2]) (rest := []) rfl rfl (e_gauges_counts (by omega) F _ _ _) rfl fun x1 => ?_
      refine L_br (t := 39) (n := 25) rfl rfl (fun _ => ?_) (fun _ => ?_)
      · refine L_ii (pc' := 42) (L' := [some (.ref 42), some (.ref 2), some (.int v2), some (.int v3), some (.int v4), some (.int (v5 + 1))]) rfl rfl q1_1 rfl rfl rfl ?_
        refine L_s (pc' := 6) rfl rfl ?_
        exact ih _ _ _ _
      · refine L_s (pc' := 26) rfl rfl ?_
        refine L_s (pc' := 27) rfl rfl ?_
        refine L_s (pc' := 29) rfl rfl ?_
        refine L_s (pc' := 30) rfl rfl ?_
        refine L_ci (pc' := 33) (as := [.ref 42, .ref 2, .int v5, .int v3]) (rest := []) rfl rfl (e_gauges_lack (by omega) _ _ _) rfl fun x2 => ?_
        refine L_br (t := 39) (n := 36) rfl rfl (fun _ => ?_) (fun _ => ?_)
        · refine L_ii (pc' := 42) (L' := [some (.ref 42), some (.ref 2), some (.int v2), some (.int v3), some (.int v4), some (.int (v5 + 1))]) rfl rfl q1_1 rfl rfl rfl ?_
          refine L_s (pc' := 6) rfl rfl ?_
          exact ih _ _ _ _
        · refine L_ii (pc' := 39) (L' := [some (.ref 42), some (.ref 2), some (.int v2), some (.int v3), some (.int (v4 + 1)), some (.int v5)]) rfl rfl q1_1 rfl rfl rfl ?_
          refine L_ii (pc' := 42) (L' := [some (.ref 42), some (.ref 2), some (.int v2), some (.int v3), some (.int (v4 + 1)), some (.int (v5 + 1))]) rfl rfl q1_1 rfl rfl rfl ?_
          refine L_s (pc' := 6) rfl rfl ?_
          exact ih _ _ _ _
theorem e_gauges_rowsStolen {X : Xx} {d : Nat} (hd : 4 ≤ d) (F : Nat) (v2 : Int32) (v3 : Int32) (g : Sg) : ∀ r, gauges_rowsStolen F v2 v3 g = some r → EvM zft mtl X d 10 [.ref 42, .ref 2, .int v2, .int v3] (SHF, g) ((fun r : Int32 => ((some (.int r), (SHF, g)) : Out)) r) := by
  obtain ⟨d, rfl⟩ : ∃ d0, d = d0 + 1 := ⟨d - 1, by omega⟩
  have hd : 3 ≤ d := by omega
  refine E_in (f := (fun r : Int32 => ((some (.int r), (SHF, g)) : Out))) rfl (Nat.le_of_ble_eq_true rfl) ?_
  unfold gauges_rowsStolen
  change Lt X d (some .int) k_10 _ 0 [some (.ref 42), some (.ref 2), some (.int v2), some (.int v3), none, none] [] g _
  refine L_ic (pc' := 1) rfl q1_0 rfl ?_
  refine L_s (pc' := 3) (L' := [some (.ref 42), some (.ref 2), some (.int v2), some (.int v3), some (.int 0), none]) rfl rfl ?_
  refine L_ic (pc' := 4) rfl q1_0 rfl ?_
  refine L_s (pc' := 6) (L' := [some (.ref 42), some (.ref 2), some (.int v2), some (.int v3), some (.int 0), some (.int 0)]) rfl rfl ?_
  exact p_gauges_rowsStolen_6 hd F F _ _ _ _
def gauges_lacksAt (F : Nat) (v2 : Int32) (v3 : Int32) (v4 : Int32) (g : Sg) : Option (Int32) :=
  Option.bind (gauges_latestRow F v2 v3 g) (fun x1 => (if x1 = (-1) then
    (some 0)
  else
    Option.bind (gauges_lack x1 v4 g) (fun x2 => (if x2 ≤ 0 then
      (some 0)
    else
      (some 1)))))
theorem e_gauges_lacksAt {X : Xx} {d : Nat} (hd : 4 ≤ d) (F : Nat) (v2 : Int32) (v3 : Int32) (v4 : Int32) (g : Sg) : ∀ r, gauges_lacksAt F v2 v3 v4 g = some r → EvM zft mtl X d 7 [.ref 42, .ref 2, .int v2, .int v3, .int v4] (SHF, g) ((fun r : Int32 => ((some (.int r), (SHF, g)) : Out)) r) := by
  obtain ⟨d, rfl⟩ : ∃ d0, d = d0 + 1 := ⟨d - 1, by omega⟩
  have hd : 3 ≤ d := by omega
  refine E_in (f := (fun r : Int32 => ((some (.int r), (SHF, g)) : Out))) rfl (Nat.le_of_ble_eq_true rfl) ?_
  unfold gauges_lacksAt
  change Lt X d (some .boolean) k_7 _ 0 [some (.ref 42), some (.ref 2), some (.int v2), some (.int v3), some (.int v4), none] [] g _
  refine L_s (pc' := 1) rfl rfl ?_
  refine L_s (pc' := 2) rfl rfl ?_
  refine L_s (pc' := 3) rfl rfl ?_
  refine L_ci (pc' := 6) (as := [.ref 42, .int v2, .int v3]) (rest := []) rfl rfl (e_gauges_latestRow (by omega) F _ _ _) rfl fun x1 => ?_
  refine L_s (pc' := 8) (L' := [some (.ref 42), some (.ref 2), some (.int v2), some (.int v3), some (.int v4), some (.int x1)]) rfl rfl ?_
  refine L_s (pc' := 10) rfl rfl ?_
  refine L_ic (pc' := 11) rfl q1_m1 rfl ?_
  refine L_br (t := 30) (n := 14) rfl rfl (fun _ => ?_) (fun _ => ?_)
  · refine L_ic (pc' := 31) rfl q1_0 rfl ?_
    exact L_ret rfl (ret_z (by decide)) rfl
  · refine L_s (pc' := 15) rfl rfl ?_
    refine L_s (pc' := 16) rfl rfl ?_
    refine L_s (pc' := 18) rfl rfl ?_
    refine L_s (pc' := 20) rfl rfl ?_
    refine L_ci (pc' := 23) (as := [.ref 42, .ref 2, .int x1, .int v4]) (rest := []) rfl rfl (e_gauges_lack (by omega) _ _ _) rfl fun x2 => ?_
    refine L_br (t := 30) (n := 26) rfl rfl (fun _ => ?_) (fun _ => ?_)
    · refine L_ic (pc' := 31) rfl q1_0 rfl ?_
      exact L_ret rfl (ret_z (by decide)) rfl
    · refine L_ic (pc' := 27) rfl q1_1 rfl ?_
      refine L_s (pc' := 31) rfl rfl ?_
      exact L_ret rfl (ret_z (by decide)) rfl
def gauges_longestRun_94 (k_9 : Int32 → Int32 → Int32 → Int32 → Int32 → Int32 → Sg → Option (Int32)) (v2 : Int32) (v3 : Int32) (v4 : Int32) (v5 : Int32) (v6 : Int32) (v7 : Int32) (v8 : Int32) (v9 : Int32) (g : Sg) : Option (Int32) :=
  (if v5 < v9 then
    (k_9 v2 v3 v4 v9 v8 (v7 + 1) g)
  else
    (if ¬ v9 = v5 then
      (k_9 v2 v3 v4 v5 v6 (v7 + 1) g)
    else
      (if v6 ≤ v8 then
        (k_9 v2 v3 v4 v5 v6 (v7 + 1) g)
      else
        (k_9 v2 v3 v4 v9 v8 (v7 + 1) g))))
def gauges_longestRun_65 (F : Nat) (k_9 : Int32 → Int32 → Int32 → Int32 → Int32 → Int32 → Sg → Option (Int32)) : Nat → Int32 → Int32 → Int32 → Int32 → Int32 → Int32 → Int32 → Int32 → Sg → Option (Int32)
  | 0, _, _, _, _, _, _, _, _, _ => none
  | n + 1, v2, v3, v4, v5, v6, v7, v8, v9, g =>
    (if 150 ≤ v9 then
      (gauges_longestRun_94 k_9 v2 v3 v4 v5 v6 v7 v8 v9 g)
    else
      Option.bind (gauges_lacksAt F v2 (v8 + v9) v3 g) (fun x1 => (if x1 = 0 then
        (gauges_longestRun_94 k_9 v2 v3 v4 v5 v6 v7 v8 v9 g)
      else
        (gauges_longestRun_65 F k_9 n v2 v3 v4 v5 v6 v7 v8 (v9 + 1) g))))
def gauges_longestRun_9 (F : Nat) : Nat → Int32 → Int32 → Int32 → Int32 → Int32 → Int32 → Sg → Option (Int32)
  | 0, _, _, _, _, _, _, _ => none
  | n + 1, v2, v3, v4, v5, v6, v7, g =>
    (if (g 42 0) ≤ v7 then
      (if v4 = 0 then
        (some v5)
      else
        (some v6))
    else
      (if inb v7 150 = true then lt1 ((g 44 (Int32.toNatClampNeg v7)) : Int32) (fun x1 => Option.bind (gauges_counts F v7 v2 g) (fun x2 => (if x2 = 0 then
        (gauges_longestRun_9 F n v2 v3 v4 v5 v6 (v7 + 1) g)
      else
        Option.bind (gauges_lack v7 v3 g) (fun x3 => (if x3 ≤ 0 then
          (gauges_longestRun_9 F n v2 v3 v4 v5 v6 (v7 + 1) g)
        else
          Option.bind (gauges_lacksAt F v2 (x1 - 1) v3 g) (fun x4 => (if ¬ x4 = 0 then
            (gauges_longestRun_9 F n v2 v3 v4 v5 v6 (v7 + 1) g)
          else
            (gauges_longestRun_65 F (fun v2 v3 v4 v5 v6 v7 g0 => gauges_longestRun_9 F n v2 v3 v4 v5 v6 v7 g0) F v2 v3 v4 v5 v6 v7 x1 1 g)))))))) else none))
def gauges_longestRun (F : Nat) (v2 : Int32) (v3 : Int32) (v4 : Int32) (g : Sg) : Option (Int32) :=
  (gauges_longestRun_9 F F v2 v3 v4 0 (-1) 0 g)
theorem p_gauges_longestRun_94 {X : Xx} {d : Nat} {g : Sg} {k_9 : Int32 → Int32 → Int32 → Int32 → Int32 → Int32 → Sg → Option (Int32)} (hd : 4 ≤ d) (hk_9 : ∀ (v2 : Int32) (v3 : Int32) (v4 : Int32) (v5 : Int32) (v6 : Int32) (v7 : Int32), Lt X d (some .int) k_12 (fun r : Int32 => ((some (.int r), (SHF, g)) : Out)) 9 [some (.ref 42), some (.ref 2), some (.int v2), some (.int v3), some (.int v4), some (.int v5), some (.int v6), some (.int v7), none, none] [] g (k_9 v2 v3 v4 v5 v6 v7 g)) (v2 : Int32) (v3 : Int32) (v4 : Int32) (v5 : Int32) (v6 : Int32) (v7 : Int32) (v8 : Int32) (v9 : Int32) : Lt X d (some .int) k_12 (fun r : Int32 => ((some (.int r), (SHF, g)) : Out)) 94 [some (.ref 42), some (.ref 2), some (.int v2), some (.int v3), some (.int v4), some (.int v5), some (.int v6), some (.int v7), some (.int v8), some (.int v9)] [] g (gauges_longestRun_94 k_9 v2 v3 v4 v5 v6 v7 v8 v9 g) := by
  unfold gauges_longestRun_94
  refine L_s (pc' := 96) rfl rfl ?_
  refine L_s (pc' := 98) rfl rfl ?_
  refine L_br (t := 115) (n := 101) rfl rfl (fun _ => ?_) (fun _ => ?_)
  · refine L_s (pc' := 117) rfl rfl ?_
    refine L_s (pc' := 119) (L' := [some (.ref 42), some (.ref 2), some (.int v2), some (.int v3), some (.int v4), some (.int v9), some (.int v6), some (.int v7), some (.int v8), some (.int v9)]) rfl rfl ?_
    refine L_s (pc' := 121) rfl rfl ?_
    refine L_s (pc' := 123) (L' := [some (.ref 42), some (.ref 2), some (.int v2), some (.int v3), some (.int v4), some (.int v9), some (.int v8), some (.int v7), some (.int v8), some (.int v9)]) rfl rfl ?_
    refine L_ii (pc' := 126) (L' := [some (.ref 42), some (.ref 2), some (.int v2), some (.int v3), some (.int v4), some (.int v9), some (.int v8), some (.int (v7 + 1)), some (.int v8), some (.int v9)]) rfl rfl q1_1 rfl rfl rfl ?_
    refine L_s (pc' := 9) rfl rfl ?_
    refine L_wk (L' := [some (.ref 42), some (.ref 2), some (.int v2), some (.int v3), some (.int v4), some (.int v9), some (.int v8), some (.int (v7 + 1)), none, none]) (wk_s (wk_s (wk_s (wk_s (wk_s (wk_s (wk_s (wk_s (wk_n (wk_n wk_nil)))))))))) ?_
    exact hk_9 _ _ _ _ _ _
  · refine L_s (pc' := 103) rfl rfl ?_
    refine L_s (pc' := 105) rfl rfl ?_
    refine L_br (t := 123) (n := 108) rfl rfl (fun _ => ?_) (fun _ => ?_)
    · refine L_ii (pc' := 126) (L' := [some (.ref 42), some (.ref 2), some (.int v2), some (.int v3), some (.int v4), some (.int v5), some (.int v6), some (.int (v7 + 1)), some (.int v8), some (.int v9)]) rfl rfl q1_1 rfl rfl rfl ?_
      refine L_s (pc' := 9) rfl rfl ?_
      refine L_wk (L' := [some (.ref 42), some (.ref 2), some (.int v2), some (.int v3), some (.int v4), some (.int v5), some (.int v6), some (.int (v7 + 1)), none, none]) (wk_s (wk_s (wk_s (wk_s (wk_s (wk_s (wk_s (wk_s (wk_n (wk_n wk_nil)))))))))) ?_
      exact hk_9 _ _ _ _ _ _
    · refine L_s (pc' := 110) rfl rfl ?_
      refine L_s (pc' := 112) rfl rfl ?_
      refine L_br (t := 123) (n := 115) rfl rfl (fun _ => ?_) (fun _ => ?_)
      · refine L_ii (pc' := 126) (L' := [some (.ref 42), some (.ref 2), some (.int v2), some (.int v3), some (.int v4), some (.int v5), some (.int v6), some (.int (v7 + 1)), some (.int v8), some (.int v9)]) rfl rfl q1_1 rfl rfl rfl ?_
        refine L_s (pc' := 9) rfl rfl ?_
        refine L_wk (L' := [some (.ref 42), some (.ref 2), some (.int v2), some (.int v3), some (.int v4), some (.int v5), some (.int v6), some (.int (v7 + 1)), none, none]) (wk_s (wk_s (wk_s (wk_s (wk_s (wk_s (wk_s (wk_s (wk_n (wk_n wk_nil)))))))))) ?_
        exact hk_9 _ _ _ _ _ _
      · refine L_s (pc' := 117) rfl rfl ?_
        refine L_s (pc' := 119) (L' := [some (.ref 42), some (.ref 2), some (.int v2), some (.int v3), some (.int v4), some (.int v9), some (.int v6), some (.int v7), some (.int v8), some (.int v9)]) rfl rfl ?_
        refine L_s (pc' := 121) rfl rfl ?_
        refine L_s (pc' := 123) (L' := [some (.ref 42), some (.ref 2), some (.int v2), some (.int v3), some (.int v4), some (.int v9), some (.int v8), some (.int v7), some (.int v8), some (.int v9)]) rfl rfl ?_
        refine L_ii (pc' := 126) (L' := [some (.ref 42), some (.ref 2), some (.int v2), some (.int v3), some (.int v4), some (.int v9), some (.int v8), some (.int (v7 + 1)), some (.int v8), some (.int v9)]) rfl rfl q1_1 rfl rfl rfl ?_
        refine L_s (pc' := 9) rfl rfl ?_
        refine L_wk (L' := [some (.ref 42), some (.ref 2), some (.int v2), some (.int v3), some (.int v4), some (.int v9), some (.int v8), some (.int (v7 + 1)), none, none]) (wk_s (wk_s (wk_s (wk_s (wk_s (wk_s (wk_s (wk_s (wk_n (wk_n wk_nil)))))))))) ?_
        exact hk_9 _ _ _ _ _ _
theorem p_gauges_longestRun_65 {X : Xx} {d : Nat} {g : Sg} {k_9 : Int32 → Int32 → Int32 → Int32 → Int32 → Int32 → Sg → Option (Int32)} (hd : 4 ≤ d) (hk_9 : ∀ (v2 : Int32) (v3 : Int32) (v4 : Int32) (v5 : Int32) (v6 : Int32) (v7 : Int32), Lt X d (some .int) k_12 (fun r : Int32 => ((some (.int r), (SHF, g)) : Out)) 9 [some (.ref 42), some (.ref 2), some (.int v2), some (.int v3), some (.int v4), some (.int v5), some (.int v6), some (.int v7), none, none] [] g (k_9 v2 v3 v4 v5 v6 v7 g)) (F : Nat) : ∀ (n : Nat) (v2 : Int32) (v3 : Int32) (v4 : Int32) (v5 : Int32) (v6 : Int32) (v7 : Int32) (v8 : Int32) (v9 : Int32), Lt X d (some .int) k_12 (fun r : Int32 => ((some (.int r), (SHF, g)) : Out)) 65 [some (.ref 42), some (.ref 2), some (.int v2), some (.int v3), some (.int v4), some (.int v5), some (.int v6), some (.int v7), some (.int v8), some (.int v9)] [] g (gauges_longestRun_65 F k_9 n v2 v3 v4 v5 v6 v7 v8 v9 g) := by
  intro n
  induction n with
  | zero => intros; exact L_none
  | succ n ih =>
    intro v2 v3 v4 v5 v6 v7 v8 v9
    show Lt X d (some .int) k_12 (fun r : Int32 => ((some (.int r), (SHF, g)) : Out)) 65 [some (.ref 42), some (.ref 2), some (.int v2), some (.int v3), some (.int v4), some (.int v5), some (.int v6), some (.int v7), some (.int v8), some (.int v9)] [] g (
      (if 150 ≤ v9 then
        (gauges_longestRun_94 k_9 v2 v3 v4 v5 v6 v7 v8 v9 g)
      else
        Option.bind (gauges_lacksAt F v2 (v8 + v9) v3 g) (fun x1 => (if x1 = 0 then
          (gauges_longestRun_94 k_9 v2 v3 v4 v5 v6 v7 v8 v9 g)
        else
          (gauges_longestRun_65 F k_9 n v2 v3 v4 v5 v6 v7 v8 (v9 + 1) g)))))
    refine L_s (pc' := 67) rfl rfl ?_
    refine L_si (pc' := 70) rfl q3_150 rfl ?_
    refine L_br (t := 94) (n := 73) rfl rfl (fun _ => ?_) (fun _ => ?_)
    · exact p_gauges_longestRun_94 hd hk_9 _ _ _ _ _ _ _ _
    · refine L_s (pc' := 74) rfl rfl ?_
      refine L_s (pc' := 75) rfl rfl ?_
      refine L_s (pc' := 76) rfl rfl ?_
      refine L_s (pc' := 78) rfl rfl ?_
      refine L_s (pc' := 80) rfl rfl ?_
      refine L_s (pc' := 81) rfl rfl ?_
      refine L_s (pc' := 82) rfl rfl ?_
      refine L_ci (pc' := 85) (as := [.ref 42, .ref 2, .int v2, .int (v8 + v9), .int v3]) (rest := []) rfl rfl (e_gauges_lacksAt (by omega) F _ _ _ _) rfl fun x1 => ?_
      refine L_br (t := 94) (n := 88) rfl rfl (fun _ => ?_) (fun _ => ?_)
      · exact p_gauges_longestRun_94 hd hk_9 _ _ _ _ _ _ _ _
      · refine L_ii (pc' := 91) (L' := [some (.ref 42), some (.ref 2), some (.int v2), some (.int v3), some (.int v4), some (.int v5), some (.int v6), some (.int v7), some (.int v8), some (.int (v9 + 1))]) rfl rfl q1_1 rfl rfl rfl ?_
        refine L_s (pc' := 65) rfl rfl ?_
        exact ih _ _ _ _ _ _ _ _
theorem p_gauges_longestRun_9 {X : Xx} {d : Nat} {g : Sg} (hd : 4 ≤ d) (F : Nat) : ∀ (n : Nat) (v2 : Int32) (v3 : Int32) (v4 : Int32) (v5 : Int32) (v6 : Int32) (v7 : Int32), Lt X d (some .int) k_12 (fun r : Int32 => ((some (.int r), (SHF, g)) : Out)) 9 [some (.ref 42), some (.ref 2), some (.int v2), some (.int v3), some (.int v4), some (.int v5), some (.int v6), some (.int v7), none, none] [] g (gauges_longestRun_9 F n v2 v3 v4 v5 v6 v7 g) := by
  intro n
  induction n with
  | zero => intros; exact L_none
  | succ n ih =>
    intro v2 v3 v4 v5 v6 v7
    show Lt X d (some .int) k_12 (fun r : Int32 => ((some (.int r), (SHF, g)) : Out)) 9 [some (.ref 42), some (.ref 2), some (.int v2), some (.int v3), some (.int v4), some (.int v5), some (.int v6), some (.int v7), none, none] [] g (
      (if (g 42 0) ≤ v7 then
        (if v4 = 0 then
          (some v5)
        else
          (some v6))
      else
        (if inb v7 150 = true then lt1 ((g 44 (Int32.toNatClampNeg v7)) : Int32) (fun x1 => Option.bind (gauges_counts F v7 v2 g) (fun x2 => (if x2 = 0 then
          (gauges_longestRun_9 F n v2 v3 v4 v5 v6 (v7 + 1) g)
        else
          Option.bind (gauges_lack v7 v3 g) (fun x3 => (if x3 ≤ 0 then
            (gauges_longestRun_9 F n v2 v3 v4 v5 v6 (v7 + 1) g)
          else
            Option.bind (gauges_lacksAt F v2 (x1 - 1) v3 g) (fun x4 => (if ¬ x4 = 0 then
              (gauges_longestRun_9 F n v2 v3 v4 v5 v6 (v7 + 1) g)
            else
              (gauges_longestRun_65 F (fun v2 v3 v4 v5 v6 v7 g0 => gauges_longestRun_9 F n v2 v3 v4 v5 v6 v7 g0) F v2 v3 v4 v5 v6 v7 x1 1 g)))))))) else none)))
    refine L_s (pc' := 11) rfl rfl ?_
    refine L_s (pc' := 12) rfl rfl ?_
    refine L_gf (pc' := 15) rfl fi_42_0 rfl ?_
    refine L_br (t := 129) (n := 18) rfl rfl (fun _ => ?_) (fun _ => ?_)
    · refine L_s (pc' := 131) rfl rfl ?_
      refine L_br (t := 139) (n := 134) rfl rfl (fun _ => ?_) (fun _ => ?_)
      · refine L_s (pc' := 141) rfl rfl ?_
        exact L_ret rfl ret_i rfl
      · refine L_s (pc' := 136) rfl rfl ?_
        refine L_s (pc' := 141) rfl rfl ?_
        exact L_ret rfl ret_i rfl
    · refine L_s (pc' := 19) rfl rfl ?_
      refine L_gf (pc' := 22) rfl fr_42_2 rfl ?_
      refine L_s (pc' := 24) rfl rfl ?_
      refine L_rI (pc' := 25) rfl sh_44 (by decide) rfl ?_
      refine L_li fun x1 _ => ?_
      refine L_s (pc' := 27) (L' := [some (.ref 42), some (.ref 2), some (.int v2), some (.int v3), some (.int v4), some (.int v5), some (.int v6), some (.int v7), some (.int x1), none]) rfl rfl ?_
      refine L_s (pc' := 28) rfl rfl ?_
      refine L_s (pc' := 30) rfl rfl ?_
      refine L_s (pc' := 31) rfl rfl ?_
      refine L_ci (pc' := 34) (as := [.ref 42, .int v7, .int v2]) (rest := []) rfl rfl (e_gauges_counts (by omega) F _ _ _) rfl fun x2 => ?_
      refine L_br (t := 123) (n := 37) rfl rfl (fun _ => ?_) (fun _ => ?_)
      · refine L_ii (pc' := 126) (L' := [some (.ref 42), some (.ref 2), some (.int v2), some (.int v3), some (.int v4), some (.int v5), some (.int v6), some (.int (v7 + 1)), some (.int x1), none]) rfl rfl q1_1 rfl rfl rfl ?_
        refine L_s (pc' := 9) rfl rfl ?_
        refine L_wk (L' := [some (.ref 42), some (.ref 2), some (.int v2), some (.int v3), some (.int v4), some (.int v5), some (.int v6), some (.int (v7 + 1)), none, none]) (wk_s (wk_s (wk_s (wk_s (wk_s (wk_s (wk_s (wk_s (wk_n (wk_s wk_nil)))))))))) ?_
        exact ih _ _ _ _ _ _
      · refine L_s (pc' := 38) rfl rfl ?_
        refine L_s (pc' := 39) rfl rfl ?_
        refine L_s (pc' := 41) rfl rfl ?_
        refine L_s (pc' := 42) rfl rfl ?_
        refine L_ci (pc' := 45) (as := [.ref 42, .ref 2, .int v7, .int v3]) (rest := []) rfl rfl (e_gauges_lack (by omega) _ _ _) rfl fun x3 => ?_
        refine L_br (t := 123) (n := 48) rfl rfl (fun _ => ?_) (fun _ => ?_)
        · refine L_ii (pc' := 126) (L' := [some (.ref 42), some (.ref 2), some (.int v2), some (.int v3), some (.int v4), some (.int v5), some (.int v6), some (.int (v7 + 1)), some (.int x1), none]) rfl rfl q1_1 rfl rfl rfl ?_
          refine L_s (pc' := 9) rfl rfl ?_
          refine L_wk (L' := [some (.ref 42), some (.ref 2), some (.int v2), some (.int v3), some (.int v4), some (.int v5), some (.int v6), some (.int (v7 + 1)), none, none]) (wk_s (wk_s (wk_s (wk_s (wk_s (wk_s (wk_s (wk_s (wk_n (wk_s wk_nil)))))))))) ?_
          exact ih _ _ _ _ _ _
        · refine L_s (pc' := 49) rfl rfl ?_
          refine L_s (pc' := 50) rfl rfl ?_
          refine L_s (pc' := 51) rfl rfl ?_
          refine L_s (pc' := 53) rfl rfl ?_
          refine L_ic (pc' := 54) rfl q1_1 rfl ?_
          refine L_s (pc' := 55) rfl rfl ?_
          refine L_s (pc' := 56) rfl rfl ?_
          refine L_ci (pc' := 59) (as := [.ref 42, .ref 2, .int v2, .int (x1 - 1), .int v3]) (rest := []) rfl rfl (e_gauges_lacksAt (by omega) F _ _ _ _) rfl fun x4 => ?_
          refine L_br (t := 123) (n := 62) rfl rfl (fun _ => ?_) (fun _ => ?_)
          · refine L_ii (pc' := 126) (L' := [some (.ref 42), some (.ref 2), some (.int v2), some (.int v3), some (.int v4), some (.int v5), some (.int v6), some (.int (v7 + 1)), some (.int x1), none]) rfl rfl q1_1 rfl rfl rfl ?_
            refine L_s (pc' := 9) rfl rfl ?_
            refine L_wk (L' := [some (.ref 42), some (.ref 2), some (.int v2), some (.int v3), some (.int v4), some (.int v5), some (.int v6), some (.int (v7 + 1)), none, none]) (wk_s (wk_s (wk_s (wk_s (wk_s (wk_s (wk_s (wk_s (wk_n (wk_s wk_nil)))))))))) ?_
            exact ih _ _ _ _ _ _
          · refine L_ic (pc' := 63) rfl q1_1 rfl ?_
            refine L_s (pc' := 65) (L' := [some (.ref 42), some (.ref 2), some (.int v2), some (.int v3), some (.int v4), some (.int v5), some (.int v6), some (.int v7), some (.int x1), some (.int 1)]) rfl rfl ?_
            exact p_gauges_longestRun_65 hd (fun _ _ _ _ _ _ => ih _ _ _ _ _ _) F F _ _ _ _ _ _ _ _
theorem e_gauges_longestRun {X : Xx} {d : Nat} (hd : 5 ≤ d) (F : Nat) (v2 : Int32) (v3 : Int32) (v4 : Int32) (g : Sg) : ∀ r, gauges_longestRun F v2 v3 v4 g = some r → EvM zft mtl X d 12 [.ref 42, .ref 2, .int v2, .int v3, .int v4] (SHF, g) ((fun r : Int32 => ((some (.int r), (SHF, g)) : Out)) r) := by
  obtain ⟨d, rfl⟩ : ∃ d0, d = d0 + 1 := ⟨d - 1, by omega⟩
  have hd : 4 ≤ d := by omega
  refine E_in (f := (fun r : Int32 => ((some (.int r), (SHF, g)) : Out))) rfl (Nat.le_of_ble_eq_true rfl) ?_
  unfold gauges_longestRun
  change Lt X d (some .int) k_12 _ 0 [some (.ref 42), some (.ref 2), some (.int v2), some (.int v3), some (.int v4), none, none, none, none, none] [] g _
  refine L_ic (pc' := 1) rfl q1_0 rfl ?_
  refine L_s (pc' := 3) (L' := [some (.ref 42), some (.ref 2), some (.int v2), some (.int v3), some (.int v4), some (.int 0), none, none, none, none]) rfl rfl ?_
  refine L_ic (pc' := 4) rfl q1_m1 rfl ?_
  refine L_s (pc' := 6) (L' := [some (.ref 42), some (.ref 2), some (.int v2), some (.int v3), some (.int v4), some (.int 0), some (.int (-1)), none, none, none]) rfl rfl ?_
  refine L_ic (pc' := 7) rfl q1_0 rfl ?_
  refine L_s (pc' := 9) (L' := [some (.ref 42), some (.ref 2), some (.int v2), some (.int v3), some (.int v4), some (.int 0), some (.int (-1)), some (.int 0), none, none]) rfl rfl ?_
  exact p_gauges_longestRun_9 hd F F _ _ _ _ _ _
