/-! printed by wip/whole/decomp.py -/
def jL_charAt_k3  (g : Sg) : Option (Int32) :=
  (some 103)
theorem e_jL_charAt_k3 {X : Xx} {d : Nat} (hd : 3 ≤ d)  (g : Sg) : ∀ r, jL_charAt_k3  g = some r → EvM zft mtl X d 237 [.ref 1033, .int 3] (SHF, g) ((fun r : Int32 => ((some (.int r), (SHF, g)) : Out)) r) := by
  obtain ⟨d, rfl⟩ : ∃ d0, d = d0 + 1 := ⟨d - 1, by omega⟩
  have hd : 2 ≤ d := by omega
  refine E_in (f := (fun r : Int32 => ((some (.int r), (SHF, g)) : Out))) rfl (Nat.le_of_ble_eq_true rfl) ?_
  unfold jL_charAt_k3
  change Lt X d (some .char) k_237 _ 0 [some (.ref 1033), some (.int 3)] [] g _
  refine L_s (pc' := 1) rfl rfl ?_
  refine L_s (pc' := 2) rfl rfl ?_
  refine L_s (pc' := 3) (st' := [.int 6, .int 3]) rfl rfl ?_
  refine L_ku (pc' := 6) (as := [.int 3, .int 6]) (rest := []) rfl rfl ((e_jS_checkIndex_k3_6 (by omega) _) () rfl) rfl ?_
  refine L_s (pc' := 7) rfl rfl ?_
  refine L_s (pc' := 8) rfl rfl ?_
  refine L_xBk (pc' := 9) rfl (rfl : xsh X 1033 = _) (by decide) (by decide) (rfl : _ = (103 : Int32)) rfl ?_
  refine L_si (pc' := 12) rfl q3_255 rfl ?_
  refine L_s (pc' := 13) rfl rfl ?_
  refine L_e (b := 103) (by decide) ?_
  refine L_s (pc' := 14) rfl rfl ?_
  refine L_e (b := 103) (by decide) ?_
  exact L_ret rfl (by decide) rfl
def jS_charAt_k3  (g : Sg) : Option (Int32) :=
  (some 103)
theorem e_jS_charAt_k3 {X : Xx} {d : Nat} (hd : 4 ≤ d)  (g : Sg) : ∀ r, jS_charAt_k3  g = some r → EvM zft mtl X d 233 [.ref 1013, .int 3] (SHF, g) ((fun r : Int32 => ((some (.int r), (SHF, g)) : Out)) r) := by
  obtain ⟨d, rfl⟩ : ∃ d0, d = d0 + 1 := ⟨d - 1, by omega⟩
  have hd : 3 ≤ d := by omega
  refine E_in (f := (fun r : Int32 => ((some (.int r), (SHF, g)) : Out))) rfl (Nat.le_of_ble_eq_true rfl) ?_
  unfold jS_charAt_k3
  change Lt X d (some .char) k_233 _ 0 [some (.ref 1013), some (.int 3)] [] g _
  refine L_s (pc' := 1) rfl rfl ?_
  refine L_kc (pc' := 4) (as := [.ref 1013]) (rest := []) rfl rfl ((e_jS_isLatin1_c3 (by omega) _) (1) rfl) rfl ?_
  refine L_bf (c := (1 : Int32) = 0) (t := 16) (n := 7) rfl rfl (by decide) ?_
  refine L_s (pc' := 8) rfl rfl ?_
  refine L_s (pc' := 11) (st' := [.ref 1033]) rfl rfl ?_
  refine L_s (pc' := 12) rfl rfl ?_
  refine L_kc (pc' := 15) (as := [.ref 1033, .int 3]) (rest := []) rfl rfl ((e_jL_charAt_k3 (by omega) _) (103) rfl) rfl ?_
  exact L_ret rfl (by decide) rfl
def jP_checkIndex_k4_6  (g : Sg) : Option (Int32) :=
  (some 4)
theorem e_jP_checkIndex_k4_6 {X : Xx} {d : Nat} (hd : 1 ≤ d)  (g : Sg) : ∀ r, jP_checkIndex_k4_6  g = some r → EvM zft mtl X d 239 [.int 4, .int 6, .null] (SHF, g) ((fun r : Int32 => ((some (.int r), (SHF, g)) : Out)) r) := by
  obtain ⟨d, rfl⟩ : ∃ d0, d = d0 + 1 := ⟨d - 1, by omega⟩
  have hd : 0 ≤ d := by omega
  refine E_in (f := (fun r : Int32 => ((some (.int r), (SHF, g)) : Out))) rfl (Nat.le_of_ble_eq_true rfl) ?_
  unfold jP_checkIndex_k4_6
  change Lt X d (some .int) k_239 _ 0 [some (.int 4), some (.int 6), some (.null)] [] g _
  refine L_s (pc' := 1) rfl rfl ?_
  refine L_bf (c := (4 : Int32) < 0) (t := 9) (n := 4) rfl rfl (by decide) ?_
  refine L_s (pc' := 5) rfl rfl ?_
  refine L_s (pc' := 6) rfl rfl ?_
  refine L_bt (c := (4 : Int32) < 6) (t := 16) (n := 9) rfl rfl (by decide) ?_
  refine L_s (pc' := 17) rfl rfl ?_
  exact L_ret rfl ret_i rfl
def jP_checkIndex_k4_6_c1  (g : Sg) : Option (Int32) :=
  (some 4)
theorem e_jP_checkIndex_k4_6_c1 {X : Xx} {d : Nat} (hd : 1 ≤ d)  (g : Sg) : ∀ r, jP_checkIndex_k4_6_c1  g = some r → EvM zft mtl X d 239 [.int 4, .int 6, .ref 1100] (SHF, g) ((fun r : Int32 => ((some (.int r), (SHF, g)) : Out)) r) := by
  obtain ⟨d, rfl⟩ : ∃ d0, d = d0 + 1 := ⟨d - 1, by omega⟩
  have hd : 0 ≤ d := by omega
  refine E_in (f := (fun r : Int32 => ((some (.int r), (SHF, g)) : Out))) rfl (Nat.le_of_ble_eq_true rfl) ?_
  unfold jP_checkIndex_k4_6_c1
  change Lt X d (some .int) k_239 _ 0 [some (.int 4), some (.int 6), some (.ref 1100)] [] g _
  refine L_s (pc' := 1) rfl rfl ?_
  refine L_bf (c := (4 : Int32) < 0) (t := 9) (n := 4) rfl rfl (by decide) ?_
  refine L_s (pc' := 5) rfl rfl ?_
  refine L_s (pc' := 6) rfl rfl ?_
  refine L_bt (c := (4 : Int32) < 6) (t := 16) (n := 9) rfl rfl (by decide) ?_
  refine L_s (pc' := 17) rfl rfl ?_
  exact L_ret rfl ret_i rfl
def jS_checkIndex_k4_6  (g : Sg) : Option (Unit) :=
  (some ())
theorem e_jS_checkIndex_k4_6 {X : Xx} {d : Nat} (hd : 2 ≤ d)  (g : Sg) : ∀ r, jS_checkIndex_k4_6  g = some r → EvM zft mtl X d 236 [.int 4, .int 6] (SHF, g) ((fun r : Unit => ((none, (SHF, g)) : Out)) r) := by
  obtain ⟨d, rfl⟩ : ∃ d0, d = d0 + 1 := ⟨d - 1, by omega⟩
  have hd : 1 ≤ d := by omega
  refine E_in (f := (fun r : Unit => ((none, (SHF, g)) : Out))) rfl (Nat.le_of_ble_eq_true rfl) ?_
  unfold jS_checkIndex_k4_6
  change Lt X d none k_236 _ 0 [some (.int 4), some (.int 6)] [] g _
  refine L_s (pc' := 1) rfl rfl ?_
  refine L_s (pc' := 2) rfl rfl ?_
  refine L_x3 (pc' := 5) rfl rfl (fun _ => ?_) (fun _ => ?_)
  · refine L_kc (pc' := 8) (as := [.int 4, .int 6, .null]) (rest := []) rfl rfl ((e_jP_checkIndex_k4_6 (by omega) _) (4) rfl) rfl ?_
    refine L_s (pc' := 9) rfl rfl ?_
    exact L_ret rfl rfl rfl
  · refine L_kc (pc' := 8) (as := [.int 4, .int 6, .ref 1100]) (rest := []) rfl rfl ((e_jP_checkIndex_k4_6_c1 (by omega) _) (4) rfl) rfl ?_
    refine L_s (pc' := 9) rfl rfl ?_
    exact L_ret rfl rfl rfl
def jL_charAt_k4  (g : Sg) : Option (Int32) :=
  (some 104)
theorem e_jL_charAt_k4 {X : Xx} {d : Nat} (hd : 3 ≤ d)  (g : Sg) : ∀ r, jL_charAt_k4  g = some r → EvM zft mtl X d 237 [.ref 1033, .int 4] (SHF, g) ((fun r : Int32 => ((some (.int r), (SHF, g)) : Out)) r) := by
  obtain ⟨d, rfl⟩ : ∃ d0, d = d0 + 1 := ⟨d - 1, by omega⟩
  have hd : 2 ≤ d := by omega
  refine E_in (f := (fun r : Int32 => ((some (.int r), (SHF, g)) : Out))) rfl (Nat.le_of_ble_eq_true rfl) ?_
  unfold jL_charAt_k4
  change Lt X d (some .char) k_237 _ 0 [some (.ref 1033), some (.int 4)] [] g _
  refine L_s (pc' := 1) rfl rfl ?_
  refine L_s (pc' := 2) rfl rfl ?_
  refine L_s (pc' := 3) (st' := [.int 6, .int 4]) rfl rfl ?_
  refine L_ku (pc' := 6) (as := [.int 4, .int 6]) (rest := []) rfl rfl ((e_jS_checkIndex_k4_6 (by omega) _) () rfl) rfl ?_
  refine L_s (pc' := 7) rfl rfl ?_
  refine L_s (pc' := 8) rfl rfl ?_
  refine L_xBk (pc' := 9) rfl (rfl : xsh X 1033 = _) (by decide) (by decide) (rfl : _ = (104 : Int32)) rfl ?_
  refine L_si (pc' := 12) rfl q3_255 rfl ?_
  refine L_s (pc' := 13) rfl rfl ?_
  refine L_e (b := 104) (by decide) ?_
  refine L_s (pc' := 14) rfl rfl ?_
  refine L_e (b := 104) (by decide) ?_
  exact L_ret rfl (by decide) rfl
def jS_charAt_k4  (g : Sg) : Option (Int32) :=
  (some 104)
theorem e_jS_charAt_k4 {X : Xx} {d : Nat} (hd : 4 ≤ d)  (g : Sg) : ∀ r, jS_charAt_k4  g = some r → EvM zft mtl X d 233 [.ref 1013, .int 4] (SHF, g) ((fun r : Int32 => ((some (.int r), (SHF, g)) : Out)) r) := by
  obtain ⟨d, rfl⟩ : ∃ d0, d = d0 + 1 := ⟨d - 1, by omega⟩
  have hd : 3 ≤ d := by omega
  refine E_in (f := (fun r : Int32 => ((some (.int r), (SHF, g)) : Out))) rfl (Nat.le_of_ble_eq_true rfl) ?_
  unfold jS_charAt_k4
  change Lt X d (some .char) k_233 _ 0 [some (.ref 1013), some (.int 4)] [] g _
  refine L_s (pc' := 1) rfl rfl ?_
  refine L_kc (pc' := 4) (as := [.ref 1013]) (rest := []) rfl rfl ((e_jS_isLatin1_c3 (by omega) _) (1) rfl) rfl ?_
  refine L_bf (c := (1 : Int32) = 0) (t := 16) (n := 7) rfl rfl (by decide) ?_
  refine L_s (pc' := 8) rfl rfl ?_
  refine L_s (pc' := 11) (st' := [.ref 1033]) rfl rfl ?_
  refine L_s (pc' := 12) rfl rfl ?_
  refine L_kc (pc' := 15) (as := [.ref 1033, .int 4]) (rest := []) rfl rfl ((e_jL_charAt_k4 (by omega) _) (104) rfl) rfl ?_
  exact L_ret rfl (by decide) rfl
def jP_checkIndex_k5_6  (g : Sg) : Option (Int32) :=
  (some 5)
theorem e_jP_checkIndex_k5_6 {X : Xx} {d : Nat} (hd : 1 ≤ d)  (g : Sg) : ∀ r, jP_checkIndex_k5_6  g = some r → EvM zft mtl X d 239 [.int 5, .int 6, .null] (SHF, g) ((fun r : Int32 => ((some (.int r), (SHF, g)) : Out)) r) := by
  obtain ⟨d, rfl⟩ : ∃ d0, d = d0 + 1 := ⟨d - 1, by omega⟩
  have hd : 0 ≤ d := by omega
  refine E_in (f := (fun r : Int32 => ((some (.int r), (SHF, g)) : Out))) rfl (Nat.le_of_ble_eq_true rfl) ?_
  unfold jP_checkIndex_k5_6
  change Lt X d (some .int) k_239 _ 0 [some (.int 5), some (.int 6), some (.null)] [] g _
  refine L_s (pc' := 1) rfl rfl ?_
  refine L_bf (c := (5 : Int32) < 0) (t := 9) (n := 4) rfl rfl (by decide) ?_
  refine L_s (pc' := 5) rfl rfl ?_
  refine L_s (pc' := 6) rfl rfl ?_
  refine L_bt (c := (5 : Int32) < 6) (t := 16) (n := 9) rfl rfl (by decide) ?_
  refine L_s (pc' := 17) rfl rfl ?_
  exact L_ret rfl ret_i rfl
def jP_checkIndex_k5_6_c1  (g : Sg) : Option (Int32) :=
  (some 5)
theorem e_jP_checkIndex_k5_6_c1 {X : Xx} {d : Nat} (hd : 1 ≤ d)  (g : Sg) : ∀ r, jP_checkIndex_k5_6_c1  g = some r → EvM zft mtl X d 239 [.int 5, .int 6, .ref 1100] (SHF, g) ((fun r : Int32 => ((some (.int r), (SHF, g)) : Out)) r) := by
  obtain ⟨d, rfl⟩ : ∃ d0, d = d0 + 1 := ⟨d - 1, by omega⟩
  have hd : 0 ≤ d := by omega
  refine E_in (f := (fun r : Int32 => ((some (.int r), (SHF, g)) : Out))) rfl (Nat.le_of_ble_eq_true rfl) ?_
  unfold jP_checkIndex_k5_6_c1
  change Lt X d (some .int) k_239 _ 0 [some (.int 5), some (.int 6), some (.ref 1100)] [] g _
  refine L_s (pc' := 1) rfl rfl ?_
  refine L_bf (c := (5 : Int32) < 0) (t := 9) (n := 4) rfl rfl (by decide) ?_
  refine L_s (pc' := 5) rfl rfl ?_
  refine L_s (pc' := 6) rfl rfl ?_
  refine L_bt (c := (5 : Int32) < 6) (t := 16) (n := 9) rfl rfl (by decide) ?_
  refine L_s (pc' := 17) rfl rfl ?_
  exact L_ret rfl ret_i rfl
def jS_checkIndex_k5_6  (g : Sg) : Option (Unit) :=
  (some ())
theorem e_jS_checkIndex_k5_6 {X : Xx} {d : Nat} (hd : 2 ≤ d)  (g : Sg) : ∀ r, jS_checkIndex_k5_6  g = some r → EvM zft mtl X d 236 [.int 5, .int 6] (SHF, g) ((fun r : Unit => ((none, (SHF, g)) : Out)) r) := by
  obtain ⟨d, rfl⟩ : ∃ d0, d = d0 + 1 := ⟨d - 1, by omega⟩
  have hd : 1 ≤ d := by omega
  refine E_in (f := (fun r : Unit => ((none, (SHF, g)) : Out))) rfl (Nat.le_of_ble_eq_true rfl) ?_
  unfold jS_checkIndex_k5_6
  change Lt X d none k_236 _ 0 [some (.int 5), some (.int 6)] [] g _
  refine L_s (pc' := 1) rfl rfl ?_
  refine L_s (pc' := 2) rfl rfl ?_
  refine L_x3 (pc' := 5) rfl rfl (fun _ => ?_) (fun _ => ?_)
  · refine L_kc (pc' := 8) (as := [.int 5, .int 6, .null]) (rest := []) rfl rfl ((e_jP_checkIndex_k5_6 (by omega) _) (5) rfl) rfl ?_
    refine L_s (pc' := 9) rfl rfl ?_
    exact L_ret rfl rfl rfl
  · refine L_kc (pc' := 8) (as := [.int 5, .int 6, .ref 1100]) (rest := []) rfl rfl ((e_jP_checkIndex_k5_6_c1 (by omega) _) (5) rfl) rfl ?_
    refine L_s (pc' := 9) rfl rfl ?_
    exact L_ret rfl rfl rfl
def jL_charAt_k5  (g : Sg) : Option (Int32) :=
  (some 116)
theorem e_jL_charAt_k5 {X : Xx} {d : Nat} (hd : 3 ≤ d)  (g : Sg) : ∀ r, jL_charAt_k5  g = some r → EvM zft mtl X d 237 [.ref 1033, .int 5] (SHF, g) ((fun r : Int32 => ((some (.int r), (SHF, g)) : Out)) r) := by
  obtain ⟨d, rfl⟩ : ∃ d0, d = d0 + 1 := ⟨d - 1, by omega⟩
  have hd : 2 ≤ d := by omega
  refine E_in (f := (fun r : Int32 => ((some (.int r), (SHF, g)) : Out))) rfl (Nat.le_of_ble_eq_true rfl) ?_
  unfold jL_charAt_k5
  change Lt X d (some .char) k_237 _ 0 [some (.ref 1033), some (.int 5)] [] g _
  refine L_s (pc' := 1) rfl rfl ?_
  refine L_s (pc' := 2) rfl rfl ?_
  refine L_s (pc' := 3) (st' := [.int 6, .int 5]) rfl rfl ?_
  refine L_ku (pc' := 6) (as := [.int 5, .int 6]) (rest := []) rfl rfl ((e_jS_checkIndex_k5_6 (by omega) _) () rfl) rfl ?_
  refine L_s (pc' := 7) rfl rfl ?_
  refine L_s (pc' := 8) rfl rfl ?_
  refine L_xBk (pc' := 9) rfl (rfl : xsh X 1033 = _) (by decide) (by decide) (rfl : _ = (116 : Int32)) rfl ?_
  refine L_si (pc' := 12) rfl q3_255 rfl ?_
  refine L_s (pc' := 13) rfl rfl ?_
  refine L_e (b := 116) (by decide) ?_
  refine L_s (pc' := 14) rfl rfl ?_
  refine L_e (b := 116) (by decide) ?_
  exact L_ret rfl (by decide) rfl
def jS_charAt_k5  (g : Sg) : Option (Int32) :=
  (some 116)
theorem e_jS_charAt_k5 {X : Xx} {d : Nat} (hd : 4 ≤ d)  (g : Sg) : ∀ r, jS_charAt_k5  g = some r → EvM zft mtl X d 233 [.ref 1013, .int 5] (SHF, g) ((fun r : Int32 => ((some (.int r), (SHF, g)) : Out)) r) := by
  obtain ⟨d, rfl⟩ : ∃ d0, d = d0 + 1 := ⟨d - 1, by omega⟩
  have hd : 3 ≤ d := by omega
  refine E_in (f := (fun r : Int32 => ((some (.int r), (SHF, g)) : Out))) rfl (Nat.le_of_ble_eq_true rfl) ?_
  unfold jS_charAt_k5
  change Lt X d (some .char) k_233 _ 0 [some (.ref 1013), some (.int 5)] [] g _
  refine L_s (pc' := 1) rfl rfl ?_
  refine L_kc (pc' := 4) (as := [.ref 1013]) (rest := []) rfl rfl ((e_jS_isLatin1_c3 (by omega) _) (1) rfl) rfl ?_
  refine L_bf (c := (1 : Int32) = 0) (t := 16) (n := 7) rfl rfl (by decide) ?_
  refine L_s (pc' := 8) rfl rfl ?_
  refine L_s (pc' := 11) (st' := [.ref 1033]) rfl rfl ?_
  refine L_s (pc' := 12) rfl rfl ?_
  refine L_kc (pc' := 15) (as := [.ref 1033, .int 5]) (rest := []) rfl rfl ((e_jL_charAt_k5 (by omega) _) (116) rfl) rfl ?_
  exact L_ret rfl (by decide) rfl
def tokens_isWord_c3 (v1 : Int32) (v2 : Int32) (g : Sg) : Option (Int32) :=
  (if ¬ (v2 - v1) = 6 then
    (some 0)
  else
    (if v1 < 0 then
      (some 0)
    else
      (if v2 ≤ 500 then
        (if inb (v1 + 0) 500 = true then (if (g 32 (Int32.toNatClampNeg (v1 + 0))) = 119 then
          (if inb (v1 + 1) 500 = true then (if (g 32 (Int32.toNatClampNeg (v1 + 1))) = 101 then
            (if inb (v1 + 2) 500 = true then (if (g 32 (Int32.toNatClampNeg (v1 + 2))) = 105 then
              (if inb (v1 + 3) 500 = true then (if (g 32 (Int32.toNatClampNeg (v1 + 3))) = 103 then
                (if inb (v1 + 4) 500 = true then (if (g 32 (Int32.toNatClampNeg (v1 + 4))) = 104 then
                  (if inb (v1 + 5) 500 = true then (if (g 32 (Int32.toNatClampNeg (v1 + 5))) = 116 then
                    (some 1)
                  else
                    (some 0)) else none)
                else
                  (some 0)) else none)
              else
                (some 0)) else none)
            else
              (some 0)) else none)
          else
            (some 0)) else none)
        else
          (some 0)) else none)
      else
        (some 0))))
theorem e_tokens_isWord_c3 {X : Xx} {d : Nat} (hd : 5 ≤ d) (v1 : Int32) (v2 : Int32) (g : Sg) : ∀ r, tokens_isWord_c3 v1 v2 g = some r → EvM zft mtl X d 86 [.ref 32, .int v1, .int v2, .ref 1013] (SHF, g) ((fun r : Int32 => ((some (.int r), (SHF, g)) : Out)) r) := by
  obtain ⟨d, rfl⟩ : ∃ d0, d = d0 + 1 := ⟨d - 1, by omega⟩
  have hd : 4 ≤ d := by omega
  refine E_in (f := (fun r : Int32 => ((some (.int r), (SHF, g)) : Out))) rfl (Nat.le_of_ble_eq_true rfl) ?_
  unfold tokens_isWord_c3
  change Lt X d (some .boolean) k_86 _ 0 [some (.ref 32), some (.int v1), some (.int v2), some (.ref 1013), none] [] g _
  refine L_s (pc' := 1) rfl rfl ?_
  refine L_s (pc' := 2) rfl rfl ?_
  refine L_s (pc' := 3) rfl rfl ?_
  refine L_s (pc' := 4) rfl rfl ?_
  refine L_kc (pc' := 7) (as := [.ref 1013]) (rest := [.int (v2 - v1)]) rfl rfl ((e_jS_length_c3 (by omega) _) (6) rfl) rfl ?_
  refine L_br (t := 20) (n := 10) rfl rfl (fun _ => ?_) (fun _ => ?_)
  · refine L_ic (pc' := 21) rfl q1_0 rfl ?_
    exact L_ret rfl (ret_z (by decide)) rfl
  · refine L_s (pc' := 11) rfl rfl ?_
    refine L_br (t := 20) (n := 14) rfl rfl (fun _ => ?_) (fun _ => ?_)
    · refine L_ic (pc' := 21) rfl q1_0 rfl ?_
      exact L_ret rfl (ret_z (by decide)) rfl
    · refine L_s (pc' := 15) rfl rfl ?_
      refine L_s (pc' := 16) rfl rfl ?_
      refine L_s (pc' := 17) (st' := [.int 500, .int v2]) rfl rfl ?_
      refine L_br (t := 22) (n := 20) rfl rfl (fun _ => ?_) (fun _ => ?_)
      · refine L_ic (pc' := 23) rfl q1_0 rfl ?_
        refine L_s (pc' := 25) (L' := [some (.ref 32), some (.int v1), some (.int v2), some (.ref 1013), some (.int 0)]) rfl rfl ?_
        refine L_s (pc' := 27) rfl rfl ?_
        refine L_s (pc' := 28) rfl rfl ?_
        refine L_kc (pc' := 31) (as := [.ref 1013]) (rest := [.int 0]) rfl rfl ((e_jS_length_c3 (by omega) _) (6) rfl) rfl ?_
        refine L_bf (c := (6 : Int32) ≤ 0) (t := 57) (n := 34) rfl rfl (by decide) ?_
        refine L_s (pc' := 35) rfl rfl ?_
        refine L_s (pc' := 36) rfl rfl ?_
        refine L_s (pc' := 38) rfl rfl ?_
        refine L_s (pc' := 39) rfl rfl ?_
        refine L_rB (pc' := 40) rfl sh_32 (by decide) (by decide) rfl ?_
        refine L_s (pc' := 41) rfl rfl ?_
        refine L_s (pc' := 43) rfl rfl ?_
        refine L_kc (pc' := 46) (as := [.ref 1013, .int 0]) (rest := [.int (g 32 (Int32.toNatClampNeg (v1 + 0)))]) rfl rfl ((e_jS_charAt_k0_c3 (by omega) _) (119) rfl) rfl ?_
        refine L_br (t := 51) (n := 49) rfl rfl (fun _ => ?_) (fun _ => ?_)
        · refine L_ii (pc' := 54) (L' := [some (.ref 32), some (.int v1), some (.int v2), some (.ref 1013), some (.int 1)]) rfl rfl q1_1 (by decide : (0 : Int32) + 1 = 1) rfl rfl ?_
          refine L_s (pc' := 25) rfl rfl ?_
          refine L_s (pc' := 27) rfl rfl ?_
          refine L_s (pc' := 28) rfl rfl ?_
          refine L_kc (pc' := 31) (as := [.ref 1013]) (rest := [.int 1]) rfl rfl ((e_jS_length_c3 (by omega) _) (6) rfl) rfl ?_
          refine L_bf (c := (6 : Int32) ≤ 1) (t := 57) (n := 34) rfl rfl (by decide) ?_
          refine L_s (pc' := 35) rfl rfl ?_
          refine L_s (pc' := 36) rfl rfl ?_
          refine L_s (pc' := 38) rfl rfl ?_
          refine L_s (pc' := 39) rfl rfl ?_
          refine L_rB (pc' := 40) rfl sh_32 (by decide) (by decide) rfl ?_
          refine L_s (pc' := 41) rfl rfl ?_
          refine L_s (pc' := 43) rfl rfl ?_
          refine L_kc (pc' := 46) (as := [.ref 1013, .int 1]) (rest := [.int (g 32 (Int32.toNatClampNeg (v1 + 1)))]) rfl rfl ((e_jS_charAt_k1_c3 (by omega) _) (101) rfl) rfl ?_
          refine L_br (t := 51) (n := 49) rfl rfl (fun _ => ?_) (fun _ => ?_)
          · refine L_ii (pc' := 54) (L' := [some (.ref 32), some (.int v1), some (.int v2), some (.ref 1013), some (.int 2)]) rfl rfl q1_1 (by decide : (1 : Int32) + 1 = 2) rfl rfl ?_
            refine L_s (pc' := 25) rfl rfl ?_
            refine L_s (pc' := 27) rfl rfl ?_
            refine L_s (pc' := 28) rfl rfl ?_
            refine L_kc (pc' := 31) (as := [.ref 1013]) (rest := [.int 2]) rfl rfl ((e_jS_length_c3 (by omega) _) (6) rfl) rfl ?_
            refine L_bf (c := (6 : Int32) ≤ 2) (t := 57) (n := 34) rfl rfl (by decide) ?_
            refine L_s (pc' := 35) rfl rfl ?_
            refine L_s (pc' := 36) rfl rfl ?_
            refine L_s (pc' := 38) rfl rfl ?_
            refine L_s (pc' := 39) rfl rfl ?_
            refine L_rB (pc' := 40) rfl sh_32 (by decide) (by decide) rfl ?_
            refine L_s (pc' := 41) rfl rfl ?_
            refine L_s (pc' := 43) rfl rfl ?_
            refine L_kc (pc' := 46) (as := [.ref 1013, .int 2]) (rest := [.int (g 32 (Int32.toNatClampNeg (v1 + 2)))]) rfl rfl ((e_jS_charAt_k2_c2 (by omega) _) (105) rfl) rfl ?_
            refine L_br (t := 51) (n := 49) rfl rfl (fun _ => ?_) (fun _ => ?_)
            · refine L_ii (pc' := 54) (L' := [some (.ref 32), some (.int v1), some (.int v2), some (.ref 1013), some (.int 3)]) rfl rfl q1_1 (by decide : (2 : Int32) + 1 = 3) rfl rfl ?_
              refine L_s (pc' := 25) rfl rfl ?_
              refine L_s (pc' := 27) rfl rfl ?_
              refine L_s (pc' := 28) rfl rfl ?_
              refine L_kc (pc' := 31) (as := [.ref 1013]) (rest := [.int 3]) rfl rfl ((e_jS_length_c3 (by omega) _) (6) rfl) rfl ?_
              refine L_bf (c := (6 : Int32) ≤ 3) (t := 57) (n := 34) rfl rfl (by decide) ?_
              refine L_s (pc' := 35) rfl rfl ?_
              refine L_s (pc' := 36) rfl rfl ?_
              refine L_s (pc' := 38) rfl rfl ?_
              refine L_s (pc' := 39) rfl rfl ?_
              refine L_rB (pc' := 40) rfl sh_32 (by decide) (by decide) rfl ?_
              refine L_s (pc' := 41) rfl rfl ?_
              refine L_s (pc' := 43) rfl rfl ?_
              refine L_kc (pc' := 46) (as := [.ref 1013, .int 3]) (rest := [.int (g 32 (Int32.toNatClampNeg (v1 + 3)))]) rfl rfl ((e_jS_charAt_k3 (by omega) _) (103) rfl) rfl ?_
              refine L_br (t := 51) (n := 49) rfl rfl (fun _ => ?_) (fun _ => ?_)
              · refine L_ii (pc' := 54) (L' := [some (.ref 32), some (.int v1), some (.int v2), some (.ref 1013), some (.int 4)]) rfl rfl q1_1 (by decide : (3 : Int32) + 1 = 4) rfl rfl ?_
                refine L_s (pc' := 25) rfl rfl ?_
                refine L_s (pc' := 27) rfl rfl ?_
                refine L_s (pc' := 28) rfl rfl ?_
                refine L_kc (pc' := 31) (as := [.ref 1013]) (rest := [.int 4]) rfl rfl ((e_jS_length_c3 (by omega) _) (6) rfl) rfl ?_
                refine L_bf (c := (6 : Int32) ≤ 4) (t := 57) (n := 34) rfl rfl (by decide) ?_
                refine L_s (pc' := 35) rfl rfl ?_
                refine L_s (pc' := 36) rfl rfl ?_
                refine L_s (pc' := 38) rfl rfl ?_
                refine L_s (pc' := 39) rfl rfl ?_
                refine L_rB (pc' := 40) rfl sh_32 (by decide) (by decide) rfl ?_
                refine L_s (pc' := 41) rfl rfl ?_
                refine L_s (pc' := 43) rfl rfl ?_
                refine L_kc (pc' := 46) (as := [.ref 1013, .int 4]) (rest := [.int (g 32 (Int32.toNatClampNeg (v1 + 4)))]) rfl rfl ((e_jS_charAt_k4 (by omega) _) (104) rfl) rfl ?_
                refine L_br (t := 51) (n := 49) rfl rfl (fun _ => ?_) (fun _ => ?_)
                · refine L_ii (pc' := 54) (L' := [some (.ref 32), some (.int v1), some (.int v2), some (.ref 1013), some (.int 5)]) rfl rfl q1_1 (by decide : (4 : Int32) + 1 = 5) rfl rfl ?_
                  refine L_s (pc' := 25) rfl rfl ?_
                  refine L_s (pc' := 27) rfl rfl ?_
                  refine L_s (pc' := 28) rfl rfl ?_
                  refine L_kc (pc' := 31) (as := [.ref 1013]) (rest := [.int 5]) rfl rfl ((e_jS_length_c3 (by omega) _) (6) rfl) rfl ?_
                  refine L_bf (c := (6 : Int32) ≤ 5) (t := 57) (n := 34) rfl rfl (by decide) ?_
                  refine L_s (pc' := 35) rfl rfl ?_
                  refine L_s (pc' := 36) rfl rfl ?_
                  refine L_s (pc' := 38) rfl rfl ?_
                  refine L_s (pc' := 39) rfl rfl ?_
                  refine L_rB (pc' := 40) rfl sh_32 (by decide) (by decide) rfl ?_
                  refine L_s (pc' := 41) rfl rfl ?_
                  refine L_s (pc' := 43) rfl rfl ?_
                  refine L_kc (pc' := 46) (as := [.ref 1013, .int 5]) (rest := [.int (g 32 (Int32.toNatClampNeg (v1 + 5)))]) rfl rfl ((e_jS_charAt_k5 (by omega) _) (116) rfl) rfl ?_
                  refine L_br (t := 51) (n := 49) rfl rfl (fun _ => ?_) (fun _ => ?_)
                  · refine L_ii (pc' := 54) (L' := [some (.ref 32), some (.int v1), some (.int v2), some (.ref 1013), some (.int 6)]) rfl rfl q1_1 (by decide : (5 : Int32) + 1 = 6) rfl rfl ?_
                    refine L_s (pc' := 25) rfl rfl ?_
                    refine L_s (pc' := 27) rfl rfl ?_
                    refine L_s (pc' := 28) rfl rfl ?_
                    refine L_kc (pc' := 31) (as := [.ref 1013]) (rest := [.int 6]) rfl rfl ((e_jS_length_c3 (by omega) _) (6) rfl) rfl ?_
                    refine L_bt (c := (6 : Int32) ≤ 6) (t := 57) (n := 34) rfl rfl (by decide) ?_
                    refine L_ic (pc' := 58) rfl q1_1 rfl ?_
                    exact L_ret rfl (ret_z (by decide)) rfl
                  · refine L_ic (pc' := 50) rfl q1_0 rfl ?_
                    exact L_ret rfl (ret_z (by decide)) rfl
                · refine L_ic (pc' := 50) rfl q1_0 rfl ?_
                  exact L_ret rfl (ret_z (by decide)) rfl
              · refine L_ic (pc' := 50) rfl q1_0 rfl ?_
                exact L_ret rfl (ret_z (by decide)) rfl
            · refine L_ic (pc' := 50) rfl q1_0 rfl ?_
              exact L_ret rfl (ret_z (by decide)) rfl
          · refine L_ic (pc' := 50) rfl q1_0 rfl ?_
            exact L_ret rfl (ret_z (by decide)) rfl
        · refine L_ic (pc' := 50) rfl q1_0 rfl ?_
          exact L_ret rfl (ret_z (by decide)) rfl
      · refine L_ic (pc' := 21) rfl q1_0 rfl ?_
        exact L_ret rfl (ret_z (by decide)) rfl
def tokens_textOf_k5  (g : Sg) : Option (Nat) :=
  (some 1014)
theorem e_tokens_textOf_k5 {X : Xx} {d : Nat} (hd : 1 ≤ d)  (g : Sg) : ∀ r, tokens_textOf_k5  g = some r → EvM zft mtl X d 85 [.int 5] (SHF, g) ((fun r : Nat => ((some (.ref r), (SHF, g)) : Out)) r) := by
  obtain ⟨d, rfl⟩ : ∃ d0, d = d0 + 1 := ⟨d - 1, by omega⟩
  have hd : 0 ≤ d := by omega
  refine E_in (f := (fun r : Nat => ((some (.ref r), (SHF, g)) : Out))) rfl (Nat.le_of_ble_eq_true rfl) ?_
  unfold tokens_textOf_k5
  change Lt X d (some (.object "java/lang/String")) k_85 _ 0 [some (.int 5)] [] g _
  refine L_s (pc' := 1) rfl rfl ?_
  refine L_ts (t := 72) (off := 71) rfl (by decide) rfl ?_
  refine L_s (pc' := 74) rfl rfl ?_
  exact L_ret rfl rfl rfl
def jS_coder_c4  (g : Sg) : Option (Int32) :=
  (some 0)
theorem e_jS_coder_c4 {X : Xx} {d : Nat} (hd : 1 ≤ d)  (g : Sg) : ∀ r, jS_coder_c4  g = some r → EvM zft mtl X d 234 [.ref 1014] (SHF, g) ((fun r : Int32 => ((some (.int r), (SHF, g)) : Out)) r) := by
  obtain ⟨d, rfl⟩ : ∃ d0, d = d0 + 1 := ⟨d - 1, by omega⟩
  have hd : 0 ≤ d := by omega
  refine E_in (f := (fun r : Int32 => ((some (.int r), (SHF, g)) : Out))) rfl (Nat.le_of_ble_eq_true rfl) ?_
  unfold jS_coder_c4
  change Lt X d (some .byte) k_234 _ 0 [some (.ref 1014)] [] g _
  refine L_s (pc' := 3) rfl rfl ?_
  refine L_bf (c := (1 : Int32) = 0) (t := 13) (n := 6) rfl rfl (by decide) ?_
  refine L_s (pc' := 7) rfl rfl ?_
  refine L_s (pc' := 10) (st' := [.int 0]) rfl rfl ?_
  refine L_s (pc' := 14) rfl rfl ?_
  exact L_ret rfl (by decide) rfl
def jS_length_c4  (g : Sg) : Option (Int32) :=
  (some 3)
theorem e_jS_length_c4 {X : Xx} {d : Nat} (hd : 2 ≤ d)  (g : Sg) : ∀ r, jS_length_c4  g = some r → EvM zft mtl X d 232 [.ref 1014] (SHF, g) ((fun r : Int32 => ((some (.int r), (SHF, g)) : Out)) r) := by
  obtain ⟨d, rfl⟩ : ∃ d0, d = d0 + 1 := ⟨d - 1, by omega⟩
  have hd : 1 ≤ d := by omega
  refine E_in (f := (fun r : Int32 => ((some (.int r), (SHF, g)) : Out))) rfl (Nat.le_of_ble_eq_true rfl) ?_
  unfold jS_length_c4
  change Lt X d (some .int) k_232 _ 0 [some (.ref 1014)] [] g _
  refine L_s (pc' := 1) rfl rfl ?_
  refine L_s (pc' := 4) (st' := [.ref 1034]) rfl rfl ?_
  refine L_s (pc' := 5) (st' := [.int 3]) rfl rfl ?_
  refine L_s (pc' := 6) rfl rfl ?_
  refine L_kc (pc' := 9) (as := [.ref 1014]) (rest := [.int 3]) rfl rfl ((e_jS_coder_c4 (by omega) _) (0) rfl) rfl ?_
  refine L_s (pc' := 10) rfl rfl ?_
  refine L_e (b := 3) (by decide) ?_
  exact L_ret rfl ret_i rfl
def jS_isLatin1_c4  (g : Sg) : Option (Int32) :=
  (some 1)
theorem e_jS_isLatin1_c4 {X : Xx} {d : Nat} (hd : 1 ≤ d)  (g : Sg) : ∀ r, jS_isLatin1_c4  g = some r → EvM zft mtl X d 235 [.ref 1014] (SHF, g) ((fun r : Int32 => ((some (.int r), (SHF, g)) : Out)) r) := by
  obtain ⟨d, rfl⟩ : ∃ d0, d = d0 + 1 := ⟨d - 1, by omega⟩
  have hd : 0 ≤ d := by omega
  refine E_in (f := (fun r : Int32 => ((some (.int r), (SHF, g)) : Out))) rfl (Nat.le_of_ble_eq_true rfl) ?_
  unfold jS_isLatin1_c4
  change Lt X d (some .boolean) k_235 _ 0 [some (.ref 1014)] [] g _
  refine L_s (pc' := 3) rfl rfl ?_
  refine L_bf (c := (1 : Int32) = 0) (t := 17) (n := 6) rfl rfl (by decide) ?_
  refine L_s (pc' := 7) rfl rfl ?_
  refine L_s (pc' := 10) (st' := [.int 0]) rfl rfl ?_
  refine L_bf (c := ¬ (0 : Int32) = 0) (t := 17) (n := 13) rfl rfl (by decide) ?_
  refine L_ic (pc' := 14) rfl q1_1 rfl ?_
  refine L_s (pc' := 18) rfl rfl ?_
  exact L_ret rfl (ret_z (by decide)) rfl
def jL_charAt_k0_c4  (g : Sg) : Option (Int32) :=
  (some 99)
theorem e_jL_charAt_k0_c4 {X : Xx} {d : Nat} (hd : 3 ≤ d)  (g : Sg) : ∀ r, jL_charAt_k0_c4  g = some r → EvM zft mtl X d 237 [.ref 1034, .int 0] (SHF, g) ((fun r : Int32 => ((some (.int r), (SHF, g)) : Out)) r) := by
  obtain ⟨d, rfl⟩ : ∃ d0, d = d0 + 1 := ⟨d - 1, by omega⟩
  have hd : 2 ≤ d := by omega
  refine E_in (f := (fun r : Int32 => ((some (.int r), (SHF, g)) : Out))) rfl (Nat.le_of_ble_eq_true rfl) ?_
  unfold jL_charAt_k0_c4
  change Lt X d (some .char) k_237 _ 0 [some (.ref 1034), some (.int 0)] [] g _
  refine L_s (pc' := 1) rfl rfl ?_
  refine L_s (pc' := 2) rfl rfl ?_
  refine L_s (pc' := 3) (st' := [.int 3, .int 0]) rfl rfl ?_
  refine L_ku (pc' := 6) (as := [.int 0, .int 3]) (rest := []) rfl rfl ((e_jS_checkIndex_k0_3 (by omega) _) () rfl) rfl ?_
  refine L_s (pc' := 7) rfl rfl ?_
  refine L_s (pc' := 8) rfl rfl ?_
  refine L_xBk (pc' := 9) rfl (rfl : xsh X 1034 = _) (by decide) (by decide) (rfl : _ = (99 : Int32)) rfl ?_
  refine L_si (pc' := 12) rfl q3_255 rfl ?_
  refine L_s (pc' := 13) rfl rfl ?_
  refine L_e (b := 99) (by decide) ?_
  refine L_s (pc' := 14) rfl rfl ?_
  refine L_e (b := 99) (by decide) ?_
  exact L_ret rfl (by decide) rfl
def jS_charAt_k0_c4  (g : Sg) : Option (Int32) :=
  (some 99)
theorem e_jS_charAt_k0_c4 {X : Xx} {d : Nat} (hd : 4 ≤ d)  (g : Sg) : ∀ r, jS_charAt_k0_c4  g = some r → EvM zft mtl X d 233 [.ref 1014, .int 0] (SHF, g) ((fun r : Int32 => ((some (.int r), (SHF, g)) : Out)) r) := by
  obtain ⟨d, rfl⟩ : ∃ d0, d = d0 + 1 := ⟨d - 1, by omega⟩
  have hd : 3 ≤ d := by omega
  refine E_in (f := (fun r : Int32 => ((some (.int r), (SHF, g)) : Out))) rfl (Nat.le_of_ble_eq_true rfl) ?_
  unfold jS_charAt_k0_c4
  change Lt X d (some .char) k_233 _ 0 [some (.ref 1014), some (.int 0)] [] g _
  refine L_s (pc' := 1) rfl rfl ?_
  refine L_kc (pc' := 4) (as := [.ref 1014]) (rest := []) rfl rfl ((e_jS_isLatin1_c4 (by omega) _) (1) rfl) rfl ?_
  refine L_bf (c := (1 : Int32) = 0) (t := 16) (n := 7) rfl rfl (by decide) ?_
  refine L_s (pc' := 8) rfl rfl ?_
  refine L_s (pc' := 11) (st' := [.ref 1034]) rfl rfl ?_
  refine L_s (pc' := 12) rfl rfl ?_
  refine L_kc (pc' := 15) (as := [.ref 1034, .int 0]) (rest := []) rfl rfl ((e_jL_charAt_k0_c4 (by omega) _) (99) rfl) rfl ?_
  exact L_ret rfl (by decide) rfl
def jL_charAt_k1_c4  (g : Sg) : Option (Int32) :=
  (some 117)
theorem e_jL_charAt_k1_c4 {X : Xx} {d : Nat} (hd : 3 ≤ d)  (g : Sg) : ∀ r, jL_charAt_k1_c4  g = some r → EvM zft mtl X d 237 [.ref 1034, .int 1] (SHF, g) ((fun r : Int32 => ((some (.int r), (SHF, g)) : Out)) r) := by
  obtain ⟨d, rfl⟩ : ∃ d0, d = d0 + 1 := ⟨d - 1, by omega⟩
  have hd : 2 ≤ d := by omega
  refine E_in (f := (fun r : Int32 => ((some (.int r), (SHF, g)) : Out))) rfl (Nat.le_of_ble_eq_true rfl) ?_
  unfold jL_charAt_k1_c4
  change Lt X d (some .char) k_237 _ 0 [some (.ref 1034), some (.int 1)] [] g _
  refine L_s (pc' := 1) rfl rfl ?_
  refine L_s (pc' := 2) rfl rfl ?_
  refine L_s (pc' := 3) (st' := [.int 3, .int 1]) rfl rfl ?_
  refine L_ku (pc' := 6) (as := [.int 1, .int 3]) (rest := []) rfl rfl ((e_jS_checkIndex_k1_3 (by omega) _) () rfl) rfl ?_
  refine L_s (pc' := 7) rfl rfl ?_
  refine L_s (pc' := 8) rfl rfl ?_
  refine L_xBk (pc' := 9) rfl (rfl : xsh X 1034 = _) (by decide) (by decide) (rfl : _ = (117 : Int32)) rfl ?_
  refine L_si (pc' := 12) rfl q3_255 rfl ?_
  refine L_s (pc' := 13) rfl rfl ?_
  refine L_e (b := 117) (by decide) ?_
  refine L_s (pc' := 14) rfl rfl ?_
  refine L_e (b := 117) (by decide) ?_
  exact L_ret rfl (by decide) rfl
def jS_charAt_k1_c4  (g : Sg) : Option (Int32) :=
  (some 117)
theorem e_jS_charAt_k1_c4 {X : Xx} {d : Nat} (hd : 4 ≤ d)  (g : Sg) : ∀ r, jS_charAt_k1_c4  g = some r → EvM zft mtl X d 233 [.ref 1014, .int 1] (SHF, g) ((fun r : Int32 => ((some (.int r), (SHF, g)) : Out)) r) := by
  obtain ⟨d, rfl⟩ : ∃ d0, d = d0 + 1 := ⟨d - 1, by omega⟩
  have hd : 3 ≤ d := by omega
  refine E_in (f := (fun r : Int32 => ((some (.int r), (SHF, g)) : Out))) rfl (Nat.le_of_ble_eq_true rfl) ?_
  unfold jS_charAt_k1_c4
  change Lt X d (some .char) k_233 _ 0 [some (.ref 1014), some (.int 1)] [] g _
  refine L_s (pc' := 1) rfl rfl ?_
  refine L_kc (pc' := 4) (as := [.ref 1014]) (rest := []) rfl rfl ((e_jS_isLatin1_c4 (by omega) _) (1) rfl) rfl ?_
  refine L_bf (c := (1 : Int32) = 0) (t := 16) (n := 7) rfl rfl (by decide) ?_
  refine L_s (pc' := 8) rfl rfl ?_
  refine L_s (pc' := 11) (st' := [.ref 1034]) rfl rfl ?_
  refine L_s (pc' := 12) rfl rfl ?_
  refine L_kc (pc' := 15) (as := [.ref 1034, .int 1]) (rest := []) rfl rfl ((e_jL_charAt_k1_c4 (by omega) _) (117) rfl) rfl ?_
  exact L_ret rfl (by decide) rfl
def jL_charAt_k2_c3  (g : Sg) : Option (Int32) :=
  (some 116)
theorem e_jL_charAt_k2_c3 {X : Xx} {d : Nat} (hd : 3 ≤ d)  (g : Sg) : ∀ r, jL_charAt_k2_c3  g = some r → EvM zft mtl X d 237 [.ref 1034, .int 2] (SHF, g) ((fun r : Int32 => ((some (.int r), (SHF, g)) : Out)) r) := by
  obtain ⟨d, rfl⟩ : ∃ d0, d = d0 + 1 := ⟨d - 1, by omega⟩
  have hd : 2 ≤ d := by omega
  refine E_in (f := (fun r : Int32 => ((some (.int r), (SHF, g)) : Out))) rfl (Nat.le_of_ble_eq_true rfl) ?_
  unfold jL_charAt_k2_c3
  change Lt X d (some .char) k_237 _ 0 [some (.ref 1034), some (.int 2)] [] g _
  refine L_s (pc' := 1) rfl rfl ?_
  refine L_s (pc' := 2) rfl rfl ?_
  refine L_s (pc' := 3) (st' := [.int 3, .int 2]) rfl rfl ?_
  refine L_ku (pc' := 6) (as := [.int 2, .int 3]) (rest := []) rfl rfl ((e_jS_checkIndex_k2_3 (by omega) _) () rfl) rfl ?_
  refine L_s (pc' := 7) rfl rfl ?_
  refine L_s (pc' := 8) rfl rfl ?_
  refine L_xBk (pc' := 9) rfl (rfl : xsh X 1034 = _) (by decide) (by decide) (rfl : _ = (116 : Int32)) rfl ?_
  refine L_si (pc' := 12) rfl q3_255 rfl ?_
  refine L_s (pc' := 13) rfl rfl ?_
  refine L_e (b := 116) (by decide) ?_
  refine L_s (pc' := 14) rfl rfl ?_
  refine L_e (b := 116) (by decide) ?_
  exact L_ret rfl (by decide) rfl
def jS_charAt_k2_c3  (g : Sg) : Option (Int32) :=
  (some 116)
theorem e_jS_charAt_k2_c3 {X : Xx} {d : Nat} (hd : 4 ≤ d)  (g : Sg) : ∀ r, jS_charAt_k2_c3  g = some r → EvM zft mtl X d 233 [.ref 1014, .int 2] (SHF, g) ((fun r : Int32 => ((some (.int r), (SHF, g)) : Out)) r) := by
  obtain ⟨d, rfl⟩ : ∃ d0, d = d0 + 1 := ⟨d - 1, by omega⟩
  have hd : 3 ≤ d := by omega
  refine E_in (f := (fun r : Int32 => ((some (.int r), (SHF, g)) : Out))) rfl (Nat.le_of_ble_eq_true rfl) ?_
  unfold jS_charAt_k2_c3
  change Lt X d (some .char) k_233 _ 0 [some (.ref 1014), some (.int 2)] [] g _
  refine L_s (pc' := 1) rfl rfl ?_
  refine L_kc (pc' := 4) (as := [.ref 1014]) (rest := []) rfl rfl ((e_jS_isLatin1_c4 (by omega) _) (1) rfl) rfl ?_
  refine L_bf (c := (1 : Int32) = 0) (t := 16) (n := 7) rfl rfl (by decide) ?_
  refine L_s (pc' := 8) rfl rfl ?_
  refine L_s (pc' := 11) (st' := [.ref 1034]) rfl rfl ?_
  refine L_s (pc' := 12) rfl rfl ?_
  refine L_kc (pc' := 15) (as := [.ref 1034, .int 2]) (rest := []) rfl rfl ((e_jL_charAt_k2_c3 (by omega) _) (116) rfl) rfl ?_
  exact L_ret rfl (by decide) rfl
def tokens_isWord_c4 (v1 : Int32) (v2 : Int32) (g : Sg) : Option (Int32) :=
  (if ¬ (v2 - v1) = 3 then
    (some 0)
  else
    (if v1 < 0 then
      (some 0)
    else
      (if v2 ≤ 500 then
        (if inb (v1 + 0) 500 = true then (if (g 32 (Int32.toNatClampNeg (v1 + 0))) = 99 then
          (if inb (v1 + 1) 500 = true then (if (g 32 (Int32.toNatClampNeg (v1 + 1))) = 117 then
            (if inb (v1 + 2) 500 = true then (if (g 32 (Int32.toNatClampNeg (v1 + 2))) = 116 then
              (some 1)
            else
              (some 0)) else none)
          else
            (some 0)) else none)
        else
          (some 0)) else none)
      else
        (some 0))))
theorem e_tokens_isWord_c4 {X : Xx} {d : Nat} (hd : 5 ≤ d) (v1 : Int32) (v2 : Int32) (g : Sg) : ∀ r, tokens_isWord_c4 v1 v2 g = some r → EvM zft mtl X d 86 [.ref 32, .int v1, .int v2, .ref 1014] (SHF, g) ((fun r : Int32 => ((some (.int r), (SHF, g)) : Out)) r) := by
  obtain ⟨d, rfl⟩ : ∃ d0, d = d0 + 1 := ⟨d - 1, by omega⟩
  have hd : 4 ≤ d := by omega
  refine E_in (f := (fun r : Int32 => ((some (.int r), (SHF, g)) : Out))) rfl (Nat.le_of_ble_eq_true rfl) ?_
  unfold tokens_isWord_c4
  change Lt X d (some .boolean) k_86 _ 0 [some (.ref 32), some (.int v1), some (.int v2), some (.ref 1014), none] [] g _
  refine L_s (pc' := 1) rfl rfl ?_
  refine L_s (pc' := 2) rfl rfl ?_
  refine L_s (pc' := 3) rfl rfl ?_
  refine L_s (pc' := 4) rfl rfl ?_
  refine L_kc (pc' := 7) (as := [.ref 1014]) (rest := [.int (v2 - v1)]) rfl rfl ((e_jS_length_c4 (by omega) _) (3) rfl) rfl ?_
  refine L_br (t := 20) (n := 10) rfl rfl (fun _ => ?_) (fun _ => ?_)
  · refine L_ic (pc' := 21) rfl q1_0 rfl ?_
    exact L_ret rfl (ret_z (by decide)) rfl
  · refine L_s (pc' := 11) rfl rfl ?_
    refine L_br (t := 20) (n := 14) rfl rfl (fun _ => ?_) (fun _ => ?_)
    · refine L_ic (pc' := 21) rfl q1_0 rfl ?_
      exact L_ret rfl (ret_z (by decide)) rfl
    · refine L_s (pc' := 15) rfl rfl ?_
      refine L_s (pc' := 16) rfl rfl ?_
      refine L_s (pc' := 17) (st' := [.int 500, .int v2]) rfl rfl ?_
      refine L_br (t := 22) (n := 20) rfl rfl (fun _ => ?_) (fun _ => ?_)
      · refine L_ic (pc' := 23) rfl q1_0 rfl ?_
        refine L_s (pc' := 25) (L' := [some (.ref 32), some (.int v1), some (.int v2), some (.ref 1014), some (.int 0)]) rfl rfl ?_
        refine L_s (pc' := 27) rfl rfl ?_
        refine L_s (pc' := 28) rfl rfl ?_
        refine L_kc (pc' := 31) (as := [.ref 1014]) (rest := [.int 0]) rfl rfl ((e_jS_length_c4 (by omega) _) (3) rfl) rfl ?_
        refine L_bf (c := (3 : Int32) ≤ 0) (t := 57) (n := 34) rfl rfl (by decide) ?_
        refine L_s (pc' := 35) rfl rfl ?_
        refine L_s (pc' := 36) rfl rfl ?_
        refine L_s (pc' := 38) rfl rfl ?_
        refine L_s (pc' := 39) rfl rfl ?_
        refine L_rB (pc' := 40) rfl sh_32 (by decide) (by decide) rfl ?_
        refine L_s (pc' := 41) rfl rfl ?_
        refine L_s (pc' := 43) rfl rfl ?_
        refine L_kc (pc' := 46) (as := [.ref 1014, .int 0]) (rest := [.int (g 32 (Int32.toNatClampNeg (v1 + 0)))]) rfl rfl ((e_jS_charAt_k0_c4 (by omega) _) (99) rfl) rfl ?_
        refine L_br (t := 51) (n := 49) rfl rfl (fun _ => ?_) (fun _ => ?_)
        · refine L_ii (pc' := 54) (L' := [some (.ref 32), some (.int v1), some (.int v2), some (.ref 1014), some (.int 1)]) rfl rfl q1_1 (by decide : (0 : Int32) + 1 = 1) rfl rfl ?_
          refine L_s (pc' := 25) rfl rfl ?_
          refine L_s (pc' := 27) rfl rfl ?_
          refine L_s (pc' := 28) rfl rfl ?_
          refine L_kc (pc' := 31) (as := [.ref 1014]) (rest := [.int 1]) rfl rfl ((e_jS_length_c4 (by omega) _) (3) rfl) rfl ?_
          refine L_bf (c := (3 : Int32) ≤ 1) (t := 57) (n := 34) rfl rfl (by decide) ?_
          refine L_s (pc' := 35) rfl rfl ?_
          refine L_s (pc' := 36) rfl rfl ?_
          refine L_s (pc' := 38) rfl rfl ?_
          refine L_s (pc' := 39) rfl rfl ?_
          refine L_rB (pc' := 40) rfl sh_32 (by decide) (by decide) rfl ?_
          refine L_s (pc' := 41) rfl rfl ?_
          refine L_s (pc' := 43) rfl rfl ?_
          refine L_kc (pc' := 46) (as := [.ref 1014, .int 1]) (rest := [.int (g 32 (Int32.toNatClampNeg (v1 + 1)))]) rfl rfl ((e_jS_charAt_k1_c4 (by omega) _) (117) rfl) rfl ?_
          refine L_br (t := 51) (n := 49) rfl rfl (fun _ => ?_) (fun _ => ?_)
          · refine L_ii (pc' := 54) (L' := [some (.ref 32), some (.int v1), some (.int v2), some (.ref 1014), some (.int 2)]) rfl rfl q1_1 (by decide : (1 : Int32) + 1 = 2) rfl rfl ?_
            refine L_s (pc' := 25) rfl rfl ?_
            refine L_s (pc' := 27) rfl rfl ?_
            refine L_s (pc' := 28) rfl rfl ?_
            refine L_kc (pc' := 31) (as := [.ref 1014]) (rest := [.int 2]) rfl rfl ((e_jS_length_c4 (by omega) _) (3) rfl) rfl ?_
            refine L_bf (c := (3 : Int32) ≤ 2) (t := 57) (n := 34) rfl rfl (by decide) ?_
            refine L_s (pc' := 35) rfl rfl ?_
            refine L_s (pc' := 36) rfl rfl ?_
            refine L_s (pc' := 38) rfl rfl ?_
            refine L_s (pc' := 39) rfl rfl ?_
            refine L_rB (pc' := 40) rfl sh_32 (by decide) (by decide) rfl ?_
            refine L_s (pc' := 41) rfl rfl ?_
            refine L_s (pc' := 43) rfl rfl ?_
            refine L_kc (pc' := 46) (as := [.ref 1014, .int 2]) (rest := [.int (g 32 (Int32.toNatClampNeg (v1 + 2)))]) rfl rfl ((e_jS_charAt_k2_c3 (by omega) _) (116) rfl) rfl ?_
            refine L_br (t := 51) (n := 49) rfl rfl (fun _ => ?_) (fun _ => ?_)
            · refine L_ii (pc' := 54) (L' := [some (.ref 32), some (.int v1), some (.int v2), some (.ref 1014), some (.int 3)]) rfl rfl q1_1 (by decide : (2 : Int32) + 1 = 3) rfl rfl ?_
              refine L_s (pc' := 25) rfl rfl ?_
              refine L_s (pc' := 27) rfl rfl ?_
              refine L_s (pc' := 28) rfl rfl ?_
              refine L_kc (pc' := 31) (as := [.ref 1014]) (rest := [.int 3]) rfl rfl ((e_jS_length_c4 (by omega) _) (3) rfl) rfl ?_
              refine L_bt (c := (3 : Int32) ≤ 3) (t := 57) (n := 34) rfl rfl (by decide) ?_
              refine L_ic (pc' := 58) rfl q1_1 rfl ?_
              exact L_ret rfl (ret_z (by decide)) rfl
            · refine L_ic (pc' := 50) rfl q1_0 rfl ?_
              exact L_ret rfl (ret_z (by decide)) rfl
          · refine L_ic (pc' := 50) rfl q1_0 rfl ?_
            exact L_ret rfl (ret_z (by decide)) rfl
        · refine L_ic (pc' := 50) rfl q1_0 rfl ?_
          exact L_ret rfl (ret_z (by decide)) rfl
      · refine L_ic (pc' := 21) rfl q1_0 rfl ?_
        exact L_ret rfl (ret_z (by decide)) rfl
def tokens_textOf_k6  (g : Sg) : Option (Nat) :=
  (some 1015)
theorem e_tokens_textOf_k6 {X : Xx} {d : Nat} (hd : 1 ≤ d)  (g : Sg) : ∀ r, tokens_textOf_k6  g = some r → EvM zft mtl X d 85 [.int 6] (SHF, g) ((fun r : Nat => ((some (.ref r), (SHF, g)) : Out)) r) := by
  obtain ⟨d, rfl⟩ : ∃ d0, d = d0 + 1 := ⟨d - 1, by omega⟩
  have hd : 0 ≤ d := by omega
  refine E_in (f := (fun r : Nat => ((some (.ref r), (SHF, g)) : Out))) rfl (Nat.le_of_ble_eq_true rfl) ?_
  unfold tokens_textOf_k6
  change Lt X d (some (.object "java/lang/String")) k_85 _ 0 [some (.int 6)] [] g _
  refine L_s (pc' := 1) rfl rfl ?_
  refine L_ts (t := 75) (off := 74) rfl (by decide) rfl ?_
  refine L_s (pc' := 77) rfl rfl ?_
  exact L_ret rfl rfl rfl
def jS_coder_c5  (g : Sg) : Option (Int32) :=
  (some 0)
theorem e_jS_coder_c5 {X : Xx} {d : Nat} (hd : 1 ≤ d)  (g : Sg) : ∀ r, jS_coder_c5  g = some r → EvM zft mtl X d 234 [.ref 1015] (SHF, g) ((fun r : Int32 => ((some (.int r), (SHF, g)) : Out)) r) := by
  obtain ⟨d, rfl⟩ : ∃ d0, d = d0 + 1 := ⟨d - 1, by omega⟩
  have hd : 0 ≤ d := by omega
  refine E_in (f := (fun r : Int32 => ((some (.int r), (SHF, g)) : Out))) rfl (Nat.le_of_ble_eq_true rfl) ?_
  unfold jS_coder_c5
  change Lt X d (some .byte) k_234 _ 0 [some (.ref 1015)] [] g _
  refine L_s (pc' := 3) rfl rfl ?_
  refine L_bf (c := (1 : Int32) = 0) (t := 13) (n := 6) rfl rfl (by decide) ?_
  refine L_s (pc' := 7) rfl rfl ?_
  refine L_s (pc' := 10) (st' := [.int 0]) rfl rfl ?_
  refine L_s (pc' := 14) rfl rfl ?_
  exact L_ret rfl (by decide) rfl
def jS_length_c5  (g : Sg) : Option (Int32) :=
  (some 4)
theorem e_jS_length_c5 {X : Xx} {d : Nat} (hd : 2 ≤ d)  (g : Sg) : ∀ r, jS_length_c5  g = some r → EvM zft mtl X d 232 [.ref 1015] (SHF, g) ((fun r : Int32 => ((some (.int r), (SHF, g)) : Out)) r) := by
  obtain ⟨d, rfl⟩ : ∃ d0, d = d0 + 1 := ⟨d - 1, by omega⟩
  have hd : 1 ≤ d := by omega
  refine E_in (f := (fun r : Int32 => ((some (.int r), (SHF, g)) : Out))) rfl (Nat.le_of_ble_eq_true rfl) ?_
  unfold jS_length_c5
  change Lt X d (some .int) k_232 _ 0 [some (.ref 1015)] [] g _
  refine L_s (pc' := 1) rfl rfl ?_
  refine L_s (pc' := 4) (st' := [.ref 1035]) rfl rfl ?_
  refine L_s (pc' := 5) (st' := [.int 4]) rfl rfl ?_
  refine L_s (pc' := 6) rfl rfl ?_
  refine L_kc (pc' := 9) (as := [.ref 1015]) (rest := [.int 4]) rfl rfl ((e_jS_coder_c5 (by omega) _) (0) rfl) rfl ?_
  refine L_s (pc' := 10) rfl rfl ?_
  refine L_e (b := 4) (by decide) ?_
  exact L_ret rfl ret_i rfl
def jS_isLatin1_c5  (g : Sg) : Option (Int32) :=
  (some 1)
theorem e_jS_isLatin1_c5 {X : Xx} {d : Nat} (hd : 1 ≤ d)  (g : Sg) : ∀ r, jS_isLatin1_c5  g = some r → EvM zft mtl X d 235 [.ref 1015] (SHF, g) ((fun r : Int32 => ((some (.int r), (SHF, g)) : Out)) r) := by
  obtain ⟨d, rfl⟩ : ∃ d0, d = d0 + 1 := ⟨d - 1, by omega⟩
  have hd : 0 ≤ d := by omega
  refine E_in (f := (fun r : Int32 => ((some (.int r), (SHF, g)) : Out))) rfl (Nat.le_of_ble_eq_true rfl) ?_
  unfold jS_isLatin1_c5
  change Lt X d (some .boolean) k_235 _ 0 [some (.ref 1015)] [] g _
  refine L_s (pc' := 3) rfl rfl ?_
  refine L_bf (c := (1 : Int32) = 0) (t := 17) (n := 6) rfl rfl (by decide) ?_
  refine L_s (pc' := 7) rfl rfl ?_
  refine L_s (pc' := 10) (st' := [.int 0]) rfl rfl ?_
  refine L_bf (c := ¬ (0 : Int32) = 0) (t := 17) (n := 13) rfl rfl (by decide) ?_
  refine L_ic (pc' := 14) rfl q1_1 rfl ?_
  refine L_s (pc' := 18) rfl rfl ?_
  exact L_ret rfl (ret_z (by decide)) rfl
def jP_checkIndex_k0_4  (g : Sg) : Option (Int32) :=
  (some 0)
theorem e_jP_checkIndex_k0_4 {X : Xx} {d : Nat} (hd : 1 ≤ d)  (g : Sg) : ∀ r, jP_checkIndex_k0_4  g = some r → EvM zft mtl X d 239 [.int 0, .int 4, .null] (SHF, g) ((fun r : Int32 => ((some (.int r), (SHF, g)) : Out)) r) := by
  obtain ⟨d, rfl⟩ : ∃ d0, d = d0 + 1 := ⟨d - 1, by omega⟩
  have hd : 0 ≤ d := by omega
  refine E_in (f := (fun r : Int32 => ((some (.int r), (SHF, g)) : Out))) rfl (Nat.le_of_ble_eq_true rfl) ?_
  unfold jP_checkIndex_k0_4
  change Lt X d (some .int) k_239 _ 0 [some (.int 0), some (.int 4), some (.null)] [] g _
  refine L_s (pc' := 1) rfl rfl ?_
  refine L_bf (c := (0 : Int32) < 0) (t := 9) (n := 4) rfl rfl (by decide) ?_
  refine L_s (pc' := 5) rfl rfl ?_
  refine L_s (pc' := 6) rfl rfl ?_
  refine L_bt (c := (0 : Int32) < 4) (t := 16) (n := 9) rfl rfl (by decide) ?_
  refine L_s (pc' := 17) rfl rfl ?_
  exact L_ret rfl ret_i rfl
def jP_checkIndex_k0_4_c1  (g : Sg) : Option (Int32) :=
  (some 0)
theorem e_jP_checkIndex_k0_4_c1 {X : Xx} {d : Nat} (hd : 1 ≤ d)  (g : Sg) : ∀ r, jP_checkIndex_k0_4_c1  g = some r → EvM zft mtl X d 239 [.int 0, .int 4, .ref 1100] (SHF, g) ((fun r : Int32 => ((some (.int r), (SHF, g)) : Out)) r) := by
  obtain ⟨d, rfl⟩ : ∃ d0, d = d0 + 1 := ⟨d - 1, by omega⟩
  have hd : 0 ≤ d := by omega
  refine E_in (f := (fun r : Int32 => ((some (.int r), (SHF, g)) : Out))) rfl (Nat.le_of_ble_eq_true rfl) ?_
  unfold jP_checkIndex_k0_4_c1
  change Lt X d (some .int) k_239 _ 0 [some (.int 0), some (.int 4), some (.ref 1100)] [] g _
  refine L_s (pc' := 1) rfl rfl ?_
  refine L_bf (c := (0 : Int32) < 0) (t := 9) (n := 4) rfl rfl (by decide) ?_
  refine L_s (pc' := 5) rfl rfl ?_
  refine L_s (pc' := 6) rfl rfl ?_
  refine L_bt (c := (0 : Int32) < 4) (t := 16) (n := 9) rfl rfl (by decide) ?_
  refine L_s (pc' := 17) rfl rfl ?_
  exact L_ret rfl ret_i rfl
def jS_checkIndex_k0_4  (g : Sg) : Option (Unit) :=
  (some ())
theorem e_jS_checkIndex_k0_4 {X : Xx} {d : Nat} (hd : 2 ≤ d)  (g : Sg) : ∀ r, jS_checkIndex_k0_4  g = some r → EvM zft mtl X d 236 [.int 0, .int 4] (SHF, g) ((fun r : Unit => ((none, (SHF, g)) : Out)) r) := by
  obtain ⟨d, rfl⟩ : ∃ d0, d = d0 + 1 := ⟨d - 1, by omega⟩
  have hd : 1 ≤ d := by omega
  refine E_in (f := (fun r : Unit => ((none, (SHF, g)) : Out))) rfl (Nat.le_of_ble_eq_true rfl) ?_
  unfold jS_checkIndex_k0_4
  change Lt X d none k_236 _ 0 [some (.int 0), some (.int 4)] [] g _
  refine L_s (pc' := 1) rfl rfl ?_
  refine L_s (pc' := 2) rfl rfl ?_
  refine L_x3 (pc' := 5) rfl rfl (fun _ => ?_) (fun _ => ?_)
  · refine L_kc (pc' := 8) (as := [.int 0, .int 4, .null]) (rest := []) rfl rfl ((e_jP_checkIndex_k0_4 (by omega) _) (0) rfl) rfl ?_
    refine L_s (pc' := 9) rfl rfl ?_
    exact L_ret rfl rfl rfl
  · refine L_kc (pc' := 8) (as := [.int 0, .int 4, .ref 1100]) (rest := []) rfl rfl ((e_jP_checkIndex_k0_4_c1 (by omega) _) (0) rfl) rfl ?_
    refine L_s (pc' := 9) rfl rfl ?_
    exact L_ret rfl rfl rfl
def jL_charAt_k0_c5  (g : Sg) : Option (Int32) :=
  (some 102)
theorem e_jL_charAt_k0_c5 {X : Xx} {d : Nat} (hd : 3 ≤ d)  (g : Sg) : ∀ r, jL_charAt_k0_c5  g = some r → EvM zft mtl X d 237 [.ref 1035, .int 0] (SHF, g) ((fun r : Int32 => ((some (.int r), (SHF, g)) : Out)) r) := by
  obtain ⟨d, rfl⟩ : ∃ d0, d = d0 + 1 := ⟨d - 1, by omega⟩
  have hd : 2 ≤ d := by omega
  refine E_in (f := (fun r : Int32 => ((some (.int r), (SHF, g)) : Out))) rfl (Nat.le_of_ble_eq_true rfl) ?_
  unfold jL_charAt_k0_c5
  change Lt X d (some .char) k_237 _ 0 [some (.ref 1035), some (.int 0)] [] g _
  refine L_s (pc' := 1) rfl rfl ?_
  refine L_s (pc' := 2) rfl rfl ?_
  refine L_s (pc' := 3) (st' := [.int 4, .int 0]) rfl rfl ?_
  refine L_ku (pc' := 6) (as := [.int 0, .int 4]) (rest := []) rfl rfl ((e_jS_checkIndex_k0_4 (by omega) _) () rfl) rfl ?_
  refine L_s (pc' := 7) rfl rfl ?_
  refine L_s (pc' := 8) rfl rfl ?_
  refine L_xBk (pc' := 9) rfl (rfl : xsh X 1035 = _) (by decide) (by decide) (rfl : _ = (102 : Int32)) rfl ?_
  refine L_si (pc' := 12) rfl q3_255 rfl ?_
  refine L_s (pc' := 13) rfl rfl ?_
  refine L_e (b := 102) (by decide) ?_
  refine L_s (pc' := 14) rfl rfl ?_
  refine L_e (b := 102) (by decide) ?_
  exact L_ret rfl (by decide) rfl
def jS_charAt_k0_c5  (g : Sg) : Option (Int32) :=
  (some 102)
theorem e_jS_charAt_k0_c5 {X : Xx} {d : Nat} (hd : 4 ≤ d)  (g : Sg) : ∀ r, jS_charAt_k0_c5  g = some r → EvM zft mtl X d 233 [.ref 1015, .int 0] (SHF, g) ((fun r : Int32 => ((some (.int r), (SHF, g)) : Out)) r) := by
  obtain ⟨d, rfl⟩ : ∃ d0, d = d0 + 1 := ⟨d - 1, by omega⟩
  have hd : 3 ≤ d := by omega
  refine E_in (f := (fun r : Int32 => ((some (.int r), (SHF, g)) : Out))) rfl (Nat.le_of_ble_eq_true rfl) ?_
  unfold jS_charAt_k0_c5
  change Lt X d (some .char) k_233 _ 0 [some (.ref 1015), some (.int 0)] [] g _
  refine L_s (pc' := 1) rfl rfl ?_
  refine L_kc (pc' := 4) (as := [.ref 1015]) (rest := []) rfl rfl ((e_jS_isLatin1_c5 (by omega) _) (1) rfl) rfl ?_
  refine L_bf (c := (1 : Int32) = 0) (t := 16) (n := 7) rfl rfl (by decide) ?_
  refine L_s (pc' := 8) rfl rfl ?_
  refine L_s (pc' := 11) (st' := [.ref 1035]) rfl rfl ?_
  refine L_s (pc' := 12) rfl rfl ?_
  refine L_kc (pc' := 15) (as := [.ref 1035, .int 0]) (rest := []) rfl rfl ((e_jL_charAt_k0_c5 (by omega) _) (102) rfl) rfl ?_
  exact L_ret rfl (by decide) rfl
def jP_checkIndex_k1_4  (g : Sg) : Option (Int32) :=
  (some 1)
theorem e_jP_checkIndex_k1_4 {X : Xx} {d : Nat} (hd : 1 ≤ d)  (g : Sg) : ∀ r, jP_checkIndex_k1_4  g = some r → EvM zft mtl X d 239 [.int 1, .int 4, .null] (SHF, g) ((fun r : Int32 => ((some (.int r), (SHF, g)) : Out)) r) := by
  obtain ⟨d, rfl⟩ : ∃ d0, d = d0 + 1 := ⟨d - 1, by omega⟩
  have hd : 0 ≤ d := by omega
  refine E_in (f := (fun r : Int32 => ((some (.int r), (SHF, g)) : Out))) rfl (Nat.le_of_ble_eq_true rfl) ?_
  unfold jP_checkIndex_k1_4
  change Lt X d (some .int) k_239 _ 0 [some (.int 1), some (.int 4), some (.null)] [] g _
  refine L_s (pc' := 1) rfl rfl ?_
  refine L_bf (c := (1 : Int32) < 0) (t := 9) (n := 4) rfl rfl (by decide) ?_
  refine L_s (pc' := 5) rfl rfl ?_
  refine L_s (pc' := 6) rfl rfl ?_
  refine L_bt (c := (1 : Int32) < 4) (t := 16) (n := 9) rfl rfl (by decide) ?_
  refine L_s (pc' := 17) rfl rfl ?_
  exact L_ret rfl ret_i rfl
def jP_checkIndex_k1_4_c1  (g : Sg) : Option (Int32) :=
  (some 1)
theorem e_jP_checkIndex_k1_4_c1 {X : Xx} {d : Nat} (hd : 1 ≤ d)  (g : Sg) : ∀ r, jP_checkIndex_k1_4_c1  g = some r → EvM zft mtl X d 239 [.int 1, .int 4, .ref 1100] (SHF, g) ((fun r : Int32 => ((some (.int r), (SHF, g)) : Out)) r) := by
  obtain ⟨d, rfl⟩ : ∃ d0, d = d0 + 1 := ⟨d - 1, by omega⟩
  have hd : 0 ≤ d := by omega
  refine E_in (f := (fun r : Int32 => ((some (.int r), (SHF, g)) : Out))) rfl (Nat.le_of_ble_eq_true rfl) ?_
  unfold jP_checkIndex_k1_4_c1
  change Lt X d (some .int) k_239 _ 0 [some (.int 1), some (.int 4), some (.ref 1100)] [] g _
  refine L_s (pc' := 1) rfl rfl ?_
  refine L_bf (c := (1 : Int32) < 0) (t := 9) (n := 4) rfl rfl (by decide) ?_
  refine L_s (pc' := 5) rfl rfl ?_
  refine L_s (pc' := 6) rfl rfl ?_
  refine L_bt (c := (1 : Int32) < 4) (t := 16) (n := 9) rfl rfl (by decide) ?_
  refine L_s (pc' := 17) rfl rfl ?_
  exact L_ret rfl ret_i rfl
def jS_checkIndex_k1_4  (g : Sg) : Option (Unit) :=
  (some ())
theorem e_jS_checkIndex_k1_4 {X : Xx} {d : Nat} (hd : 2 ≤ d)  (g : Sg) : ∀ r, jS_checkIndex_k1_4  g = some r → EvM zft mtl X d 236 [.int 1, .int 4] (SHF, g) ((fun r : Unit => ((none, (SHF, g)) : Out)) r) := by
  obtain ⟨d, rfl⟩ : ∃ d0, d = d0 + 1 := ⟨d - 1, by omega⟩
  have hd : 1 ≤ d := by omega
  refine E_in (f := (fun r : Unit => ((none, (SHF, g)) : Out))) rfl (Nat.le_of_ble_eq_true rfl) ?_
  unfold jS_checkIndex_k1_4
  change Lt X d none k_236 _ 0 [some (.int 1), some (.int 4)] [] g _
  refine L_s (pc' := 1) rfl rfl ?_
  refine L_s (pc' := 2) rfl rfl ?_
  refine L_x3 (pc' := 5) rfl rfl (fun _ => ?_) (fun _ => ?_)
  · refine L_kc (pc' := 8) (as := [.int 1, .int 4, .null]) (rest := []) rfl rfl ((e_jP_checkIndex_k1_4 (by omega) _) (1) rfl) rfl ?_
    refine L_s (pc' := 9) rfl rfl ?_
    exact L_ret rfl rfl rfl
  · refine L_kc (pc' := 8) (as := [.int 1, .int 4, .ref 1100]) (rest := []) rfl rfl ((e_jP_checkIndex_k1_4_c1 (by omega) _) (1) rfl) rfl ?_
    refine L_s (pc' := 9) rfl rfl ?_
    exact L_ret rfl rfl rfl
def jL_charAt_k1_c5  (g : Sg) : Option (Int32) :=
  (some 114)
theorem e_jL_charAt_k1_c5 {X : Xx} {d : Nat} (hd : 3 ≤ d)  (g : Sg) : ∀ r, jL_charAt_k1_c5  g = some r → EvM zft mtl X d 237 [.ref 1035, .int 1] (SHF, g) ((fun r : Int32 => ((some (.int r), (SHF, g)) : Out)) r) := by
  obtain ⟨d, rfl⟩ : ∃ d0, d = d0 + 1 := ⟨d - 1, by omega⟩
  have hd : 2 ≤ d := by omega
  refine E_in (f := (fun r : Int32 => ((some (.int r), (SHF, g)) : Out))) rfl (Nat.le_of_ble_eq_true rfl) ?_
  unfold jL_charAt_k1_c5
  change Lt X d (some .char) k_237 _ 0 [some (.ref 1035), some (.int 1)] [] g _
  refine L_s (pc' := 1) rfl rfl ?_
  refine L_s (pc' := 2) rfl rfl ?_
  refine L_s (pc' := 3) (st' := [.int 4, .int 1]) rfl rfl ?_
  refine L_ku (pc' := 6) (as := [.int 1, .int 4]) (rest := []) rfl rfl ((e_jS_checkIndex_k1_4 (by omega) _) () rfl) rfl ?_
  refine L_s (pc' := 7) rfl rfl ?_
  refine L_s (pc' := 8) rfl rfl ?_
  refine L_xBk (pc' := 9) rfl (rfl : xsh X 1035 = _) (by decide) (by decide) (rfl : _ = (114 : Int32)) rfl ?_
  refine L_si (pc' := 12) rfl q3_255 rfl ?_
  refine L_s (pc' := 13) rfl rfl ?_
  refine L_e (b := 114) (by decide) ?_
  refine L_s (pc' := 14) rfl rfl ?_
  refine L_e (b := 114) (by decide) ?_
  exact L_ret rfl (by decide) rfl
def jS_charAt_k1_c5  (g : Sg) : Option (Int32) :=
  (some 114)
theorem e_jS_charAt_k1_c5 {X : Xx} {d : Nat} (hd : 4 ≤ d)  (g : Sg) : ∀ r, jS_charAt_k1_c5  g = some r → EvM zft mtl X d 233 [.ref 1015, .int 1] (SHF, g) ((fun r : Int32 => ((some (.int r), (SHF, g)) : Out)) r) := by
  obtain ⟨d, rfl⟩ : ∃ d0, d = d0 + 1 := ⟨d - 1, by omega⟩
  have hd : 3 ≤ d := by omega
  refine E_in (f := (fun r : Int32 => ((some (.int r), (SHF, g)) : Out))) rfl (Nat.le_of_ble_eq_true rfl) ?_
  unfold jS_charAt_k1_c5
  change Lt X d (some .char) k_233 _ 0 [some (.ref 1015), some (.int 1)] [] g _
  refine L_s (pc' := 1) rfl rfl ?_
  refine L_kc (pc' := 4) (as := [.ref 1015]) (rest := []) rfl rfl ((e_jS_isLatin1_c5 (by omega) _) (1) rfl) rfl ?_
  refine L_bf (c := (1 : Int32) = 0) (t := 16) (n := 7) rfl rfl (by decide) ?_
  refine L_s (pc' := 8) rfl rfl ?_
  refine L_s (pc' := 11) (st' := [.ref 1035]) rfl rfl ?_
  refine L_s (pc' := 12) rfl rfl ?_
  refine L_kc (pc' := 15) (as := [.ref 1035, .int 1]) (rest := []) rfl rfl ((e_jL_charAt_k1_c5 (by omega) _) (114) rfl) rfl ?_
  exact L_ret rfl (by decide) rfl
def jP_checkIndex_k2_4  (g : Sg) : Option (Int32) :=
  (some 2)
theorem e_jP_checkIndex_k2_4 {X : Xx} {d : Nat} (hd : 1 ≤ d)  (g : Sg) : ∀ r, jP_checkIndex_k2_4  g = some r → EvM zft mtl X d 239 [.int 2, .int 4, .null] (SHF, g) ((fun r : Int32 => ((some (.int r), (SHF, g)) : Out)) r) := by
  obtain ⟨d, rfl⟩ : ∃ d0, d = d0 + 1 := ⟨d - 1, by omega⟩
  have hd : 0 ≤ d := by omega
  refine E_in (f := (fun r : Int32 => ((some (.int r), (SHF, g)) : Out))) rfl (Nat.le_of_ble_eq_true rfl) ?_
  unfold jP_checkIndex_k2_4
  change Lt X d (some .int) k_239 _ 0 [some (.int 2), some (.int 4), some (.null)] [] g _
  refine L_s (pc' := 1) rfl rfl ?_
  refine L_bf (c := (2 : Int32) < 0) (t := 9) (n := 4) rfl rfl (by decide) ?_
  refine L_s (pc' := 5) rfl rfl ?_
  refine L_s (pc' := 6) rfl rfl ?_
  refine L_bt (c := (2 : Int32) < 4) (t := 16) (n := 9) rfl rfl (by decide) ?_
  refine L_s (pc' := 17) rfl rfl ?_
  exact L_ret rfl ret_i rfl
def jP_checkIndex_k2_4_c1  (g : Sg) : Option (Int32) :=
  (some 2)
theorem e_jP_checkIndex_k2_4_c1 {X : Xx} {d : Nat} (hd : 1 ≤ d)  (g : Sg) : ∀ r, jP_checkIndex_k2_4_c1  g = some r → EvM zft mtl X d 239 [.int 2, .int 4, .ref 1100] (SHF, g) ((fun r : Int32 => ((some (.int r), (SHF, g)) : Out)) r) := by
  obtain ⟨d, rfl⟩ : ∃ d0, d = d0 + 1 := ⟨d - 1, by omega⟩
  have hd : 0 ≤ d := by omega
  refine E_in (f := (fun r : Int32 => ((some (.int r), (SHF, g)) : Out))) rfl (Nat.le_of_ble_eq_true rfl) ?_
  unfold jP_checkIndex_k2_4_c1
  change Lt X d (some .int) k_239 _ 0 [some (.int 2), some (.int 4), some (.ref 1100)] [] g _
  refine L_s (pc' := 1) rfl rfl ?_
  refine L_bf (c := (2 : Int32) < 0) (t := 9) (n := 4) rfl rfl (by decide) ?_
  refine L_s (pc' := 5) rfl rfl ?_
  refine L_s (pc' := 6) rfl rfl ?_
  refine L_bt (c := (2 : Int32) < 4) (t := 16) (n := 9) rfl rfl (by decide) ?_
  refine L_s (pc' := 17) rfl rfl ?_
  exact L_ret rfl ret_i rfl
def jS_checkIndex_k2_4  (g : Sg) : Option (Unit) :=
  (some ())
theorem e_jS_checkIndex_k2_4 {X : Xx} {d : Nat} (hd : 2 ≤ d)  (g : Sg) : ∀ r, jS_checkIndex_k2_4  g = some r → EvM zft mtl X d 236 [.int 2, .int 4] (SHF, g) ((fun r : Unit => ((none, (SHF, g)) : Out)) r) := by
  obtain ⟨d, rfl⟩ : ∃ d0, d = d0 + 1 := ⟨d - 1, by omega⟩
  have hd : 1 ≤ d := by omega
  refine E_in (f := (fun r : Unit => ((none, (SHF, g)) : Out))) rfl (Nat.le_of_ble_eq_true rfl) ?_
  unfold jS_checkIndex_k2_4
  change Lt X d none k_236 _ 0 [some (.int 2), some (.int 4)] [] g _
  refine L_s (pc' := 1) rfl rfl ?_
  refine L_s (pc' := 2) rfl rfl ?_
  refine L_x3 (pc' := 5) rfl rfl (fun _ => ?_) (fun _ => ?_)
  · refine L_kc (pc' := 8) (as := [.int 2, .int 4, .null]) (rest := []) rfl rfl ((e_jP_checkIndex_k2_4 (by omega) _) (2) rfl) rfl ?_
    refine L_s (pc' := 9) rfl rfl ?_
    exact L_ret rfl rfl rfl
  · refine L_kc (pc' := 8) (as := [.int 2, .int 4, .ref 1100]) (rest := []) rfl rfl ((e_jP_checkIndex_k2_4_c1 (by omega) _) (2) rfl) rfl ?_
    refine L_s (pc' := 9) rfl rfl ?_
    exact L_ret rfl rfl rfl
def jL_charAt_k2_c4  (g : Sg) : Option (Int32) :=
  (some 101)
theorem e_jL_charAt_k2_c4 {X : Xx} {d : Nat} (hd : 3 ≤ d)  (g : Sg) : ∀ r, jL_charAt_k2_c4  g = some r → EvM zft mtl X d 237 [.ref 1035, .int 2] (SHF, g) ((fun r : Int32 => ((some (.int r), (SHF, g)) : Out)) r) := by
  obtain ⟨d, rfl⟩ : ∃ d0, d = d0 + 1 := ⟨d - 1, by omega⟩
  have hd : 2 ≤ d := by omega
  refine E_in (f := (fun r : Int32 => ((some (.int r), (SHF, g)) : Out))) rfl (Nat.le_of_ble_eq_true rfl) ?_
  unfold jL_charAt_k2_c4
  change Lt X d (some .char) k_237 _ 0 [some (.ref 1035), some (.int 2)] [] g _
  refine L_s (pc' := 1) rfl rfl ?_
  refine L_s (pc' := 2) rfl rfl ?_
  refine L_s (pc' := 3) (st' := [.int 4, .int 2]) rfl rfl ?_
  refine L_ku (pc' := 6) (as := [.int 2, .int 4]) (rest := []) rfl rfl ((e_jS_checkIndex_k2_4 (by omega) _) () rfl) rfl ?_
  refine L_s (pc' := 7) rfl rfl ?_
  refine L_s (pc' := 8) rfl rfl ?_
  refine L_xBk (pc' := 9) rfl (rfl : xsh X 1035 = _) (by decide) (by decide) (rfl : _ = (101 : Int32)) rfl ?_
  refine L_si (pc' := 12) rfl q3_255 rfl ?_
  refine L_s (pc' := 13) rfl rfl ?_
  refine L_e (b := 101) (by decide) ?_
  refine L_s (pc' := 14) rfl rfl ?_
  refine L_e (b := 101) (by decide) ?_
  exact L_ret rfl (by decide) rfl
def jS_charAt_k2_c4  (g : Sg) : Option (Int32) :=
  (some 101)
theorem e_jS_charAt_k2_c4 {X : Xx} {d : Nat} (hd : 4 ≤ d)  (g : Sg) : ∀ r, jS_charAt_k2_c4  g = some r → EvM zft mtl X d 233 [.ref 1015, .int 2] (SHF, g) ((fun r : Int32 => ((some (.int r), (SHF, g)) : Out)) r) := by
  obtain ⟨d, rfl⟩ : ∃ d0, d = d0 + 1 := ⟨d - 1, by omega⟩
  have hd : 3 ≤ d := by omega
  refine E_in (f := (fun r : Int32 => ((some (.int r), (SHF, g)) : Out))) rfl (Nat.le_of_ble_eq_true rfl) ?_
  unfold jS_charAt_k2_c4
  change Lt X d (some .char) k_233 _ 0 [some (.ref 1015), some (.int 2)] [] g _
  refine L_s (pc' := 1) rfl rfl ?_
  refine L_kc (pc' := 4) (as := [.ref 1015]) (rest := []) rfl rfl ((e_jS_isLatin1_c5 (by omega) _) (1) rfl) rfl ?_
  refine L_bf (c := (1 : Int32) = 0) (t := 16) (n := 7) rfl rfl (by decide) ?_
  refine L_s (pc' := 8) rfl rfl ?_
  refine L_s (pc' := 11) (st' := [.ref 1035]) rfl rfl ?_
  refine L_s (pc' := 12) rfl rfl ?_
  refine L_kc (pc' := 15) (as := [.ref 1035, .int 2]) (rest := []) rfl rfl ((e_jL_charAt_k2_c4 (by omega) _) (101) rfl) rfl ?_
  exact L_ret rfl (by decide) rfl
def jP_checkIndex_k3_4  (g : Sg) : Option (Int32) :=
  (some 3)
theorem e_jP_checkIndex_k3_4 {X : Xx} {d : Nat} (hd : 1 ≤ d)  (g : Sg) : ∀ r, jP_checkIndex_k3_4  g = some r → EvM zft mtl X d 239 [.int 3, .int 4, .null] (SHF, g) ((fun r : Int32 => ((some (.int r), (SHF, g)) : Out)) r) := by
  obtain ⟨d, rfl⟩ : ∃ d0, d = d0 + 1 := ⟨d - 1, by omega⟩
  have hd : 0 ≤ d := by omega
  refine E_in (f := (fun r : Int32 => ((some (.int r), (SHF, g)) : Out))) rfl (Nat.le_of_ble_eq_true rfl) ?_
  unfold jP_checkIndex_k3_4
  change Lt X d (some .int) k_239 _ 0 [some (.int 3), some (.int 4), some (.null)] [] g _
  refine L_s (pc' := 1) rfl rfl ?_
  refine L_bf (c := (3 : Int32) < 0) (t := 9) (n := 4) rfl rfl (by decide) ?_
  refine L_s (pc' := 5) rfl rfl ?_
  refine L_s (pc' := 6) rfl rfl ?_
  refine L_bt (c := (3 : Int32) < 4) (t := 16) (n := 9) rfl rfl (by decide) ?_
  refine L_s (pc' := 17) rfl rfl ?_
  exact L_ret rfl ret_i rfl
def jP_checkIndex_k3_4_c1  (g : Sg) : Option (Int32) :=
  (some 3)
theorem e_jP_checkIndex_k3_4_c1 {X : Xx} {d : Nat} (hd : 1 ≤ d)  (g : Sg) : ∀ r, jP_checkIndex_k3_4_c1  g = some r → EvM zft mtl X d 239 [.int 3, .int 4, .ref 1100] (SHF, g) ((fun r : Int32 => ((some (.int r), (SHF, g)) : Out)) r) := by
  obtain ⟨d, rfl⟩ : ∃ d0, d = d0 + 1 := ⟨d - 1, by omega⟩
  have hd : 0 ≤ d := by omega
  refine E_in (f := (fun r : Int32 => ((some (.int r), (SHF, g)) : Out))) rfl (Nat.le_of_ble_eq_true rfl) ?_
  unfold jP_checkIndex_k3_4_c1
  change Lt X d (some .int) k_239 _ 0 [some (.int 3), some (.int 4), some (.ref 1100)] [] g _
  refine L_s (pc' := 1) rfl rfl ?_
  refine L_bf (c := (3 : Int32) < 0) (t := 9) (n := 4) rfl rfl (by decide) ?_
  refine L_s (pc' := 5) rfl rfl ?_
  refine L_s (pc' := 6) rfl rfl ?_
  refine L_bt (c := (3 : Int32) < 4) (t := 16) (n := 9) rfl rfl (by decide) ?_
  refine L_s (pc' := 17) rfl rfl ?_
  exact L_ret rfl ret_i rfl
def jS_checkIndex_k3_4  (g : Sg) : Option (Unit) :=
  (some ())
theorem e_jS_checkIndex_k3_4 {X : Xx} {d : Nat} (hd : 2 ≤ d)  (g : Sg) : ∀ r, jS_checkIndex_k3_4  g = some r → EvM zft mtl X d 236 [.int 3, .int 4] (SHF, g) ((fun r : Unit => ((none, (SHF, g)) : Out)) r) := by
  obtain ⟨d, rfl⟩ : ∃ d0, d = d0 + 1 := ⟨d - 1, by omega⟩
  have hd : 1 ≤ d := by omega
  refine E_in (f := (fun r : Unit => ((none, (SHF, g)) : Out))) rfl (Nat.le_of_ble_eq_true rfl) ?_
  unfold jS_checkIndex_k3_4
  change Lt X d none k_236 _ 0 [some (.int 3), some (.int 4)] [] g _
  refine L_s (pc' := 1) rfl rfl ?_
  refine L_s (pc' := 2) rfl rfl ?_
  refine L_x3 (pc' := 5) rfl rfl (fun _ => ?_) (fun _ => ?_)
  · refine L_kc (pc' := 8) (as := [.int 3, .int 4, .null]) (rest := []) rfl rfl ((e_jP_checkIndex_k3_4 (by omega) _) (3) rfl) rfl ?_
    refine L_s (pc' := 9) rfl rfl ?_
    exact L_ret rfl rfl rfl
  · refine L_kc (pc' := 8) (as := [.int 3, .int 4, .ref 1100]) (rest := []) rfl rfl ((e_jP_checkIndex_k3_4_c1 (by omega) _) (3) rfl) rfl ?_
    refine L_s (pc' := 9) rfl rfl ?_
    exact L_ret rfl rfl rfl
def jL_charAt_k3_c1  (g : Sg) : Option (Int32) :=
  (some 101)
theorem e_jL_charAt_k3_c1 {X : Xx} {d : Nat} (hd : 3 ≤ d)  (g : Sg) : ∀ r, jL_charAt_k3_c1  g = some r → EvM zft mtl X d 237 [.ref 1035, .int 3] (SHF, g) ((fun r : Int32 => ((some (.int r), (SHF, g)) : Out)) r) := by
  obtain ⟨d, rfl⟩ : ∃ d0, d = d0 + 1 := ⟨d - 1, by omega⟩
  have hd : 2 ≤ d := by omega
  refine E_in (f := (fun r : Int32 => ((some (.int r), (SHF, g)) : Out))) rfl (Nat.le_of_ble_eq_true rfl) ?_
  unfold jL_charAt_k3_c1
  change Lt X d (some .char) k_237 _ 0 [some (.ref 1035), some (.int 3)] [] g _
  refine L_s (pc' := 1) rfl rfl ?_
  refine L_s (pc' := 2) rfl rfl ?_
  refine L_s (pc' := 3) (st' := [.int 4, .int 3]) rfl rfl ?_
  refine L_ku (pc' := 6) (as := [.int 3, .int 4]) (rest := []) rfl rfl ((e_jS_checkIndex_k3_4 (by omega) _) () rfl) rfl ?_
  refine L_s (pc' := 7) rfl rfl ?_
  refine L_s (pc' := 8) rfl rfl ?_
  refine L_xBk (pc' := 9) rfl (rfl : xsh X 1035 = _) (by decide) (by decide) (rfl : _ = (101 : Int32)) rfl ?_
  refine L_si (pc' := 12) rfl q3_255 rfl ?_
  refine L_s (pc' := 13) rfl rfl ?_
  refine L_e (b := 101) (by decide) ?_
  refine L_s (pc' := 14) rfl rfl ?_
  refine L_e (b := 101) (by decide) ?_
  exact L_ret rfl (by decide) rfl
def jS_charAt_k3_c1  (g : Sg) : Option (Int32) :=
  (some 101)
theorem e_jS_charAt_k3_c1 {X : Xx} {d : Nat} (hd : 4 ≤ d)  (g : Sg) : ∀ r, jS_charAt_k3_c1  g = some r → EvM zft mtl X d 233 [.ref 1015, .int 3] (SHF, g) ((fun r : Int32 => ((some (.int r), (SHF, g)) : Out)) r) := by
  obtain ⟨d, rfl⟩ : ∃ d0, d = d0 + 1 := ⟨d - 1, by omega⟩
  have hd : 3 ≤ d := by omega
  refine E_in (f := (fun r : Int32 => ((some (.int r), (SHF, g)) : Out))) rfl (Nat.le_of_ble_eq_true rfl) ?_
  unfold jS_charAt_k3_c1
  change Lt X d (some .char) k_233 _ 0 [some (.ref 1015), some (.int 3)] [] g _
  refine L_s (pc' := 1) rfl rfl ?_
  refine L_kc (pc' := 4) (as := [.ref 1015]) (rest := []) rfl rfl ((e_jS_isLatin1_c5 (by omega) _) (1) rfl) rfl ?_
  refine L_bf (c := (1 : Int32) = 0) (t := 16) (n := 7) rfl rfl (by decide) ?_
  refine L_s (pc' := 8) rfl rfl ?_
  refine L_s (pc' := 11) (st' := [.ref 1035]) rfl rfl ?_
  refine L_s (pc' := 12) rfl rfl ?_
  refine L_kc (pc' := 15) (as := [.ref 1035, .int 3]) (rest := []) rfl rfl ((e_jL_charAt_k3_c1 (by omega) _) (101) rfl) rfl ?_
  exact L_ret rfl (by decide) rfl
def tokens_isWord_c5 (v1 : Int32) (v2 : Int32) (g : Sg) : Option (Int32) :=
  (if ¬ (v2 - v1) = 4 then
    (some 0)
  else
    (if v1 < 0 then
      (some 0)
    else
      (if v2 ≤ 500 then
        (if inb (v1 + 0) 500 = true then (if (g 32 (Int32.toNatClampNeg (v1 + 0))) = 102 then
          (if inb (v1 + 1) 500 = true then (if (g 32 (Int32.toNatClampNeg (v1 + 1))) = 114 then
            (if inb (v1 + 2) 500 = true then (if (g 32 (Int32.toNatClampNeg (v1 + 2))) = 101 then
              (if inb (v1 + 3) 500 = true then (if (g 32 (Int32.toNatClampNeg (v1 + 3))) = 101 then
                (some 1)
              else
                (some 0)) else none)
            else
              (some 0)) else none)
          else
            (some 0)) else none)
        else
          (some 0)) else none)
      else
        (some 0))))
theorem e_tokens_isWord_c5 {X : Xx} {d : Nat} (hd : 5 ≤ d) (v1 : Int32) (v2 : Int32) (g : Sg) : ∀ r, tokens_isWord_c5 v1 v2 g = some r → EvM zft mtl X d 86 [.ref 32, .int v1, .int v2, .ref 1015] (SHF, g) ((fun r : Int32 => ((some (.int r), (SHF, g)) : Out)) r) := by
  obtain ⟨d, rfl⟩ : ∃ d0, d = d0 + 1 := ⟨d - 1, by omega⟩
  have hd : 4 ≤ d := by omega
  refine E_in (f := (fun r : Int32 => ((some (.int r), (SHF, g)) : Out))) rfl (Nat.le_of_ble_eq_true rfl) ?_
  unfold tokens_isWord_c5
  change Lt X d (some .boolean) k_86 _ 0 [some (.ref 32), some (.int v1), some (.int v2), some (.ref 1015), none] [] g _
  refine L_s (pc' := 1) rfl rfl ?_
  refine L_s (pc' := 2) rfl rfl ?_
  refine L_s (pc' := 3) rfl rfl ?_
  refine L_s (pc' := 4) rfl rfl ?_
  refine L_kc (pc' := 7) (as := [.ref 1015]) (rest := [.int (v2 - v1)]) rfl rfl ((e_jS_length_c5 (by omega) _) (4) rfl) rfl ?_
  refine L_br (t := 20) (n := 10) rfl rfl (fun _ => ?_) (fun _ => ?_)
  · refine L_ic (pc' := 21) rfl q1_0 rfl ?_
    exact L_ret rfl (ret_z (by decide)) rfl
  · refine L_s (pc' := 11) rfl rfl ?_
    refine L_br (t := 20) (n := 14) rfl rfl (fun _ => ?_) (fun _ => ?_)
    · refine L_ic (pc' := 21) rfl q1_0 rfl ?_
      exact L_ret rfl (ret_z (by decide)) rfl
    · refine L_s (pc' := 15) rfl rfl ?_
      refine L_s (pc' := 16) rfl rfl ?_
      refine L_s (pc' := 17) (st' := [.int 500, .int v2]) rfl rfl ?_
      refine L_br (t := 22) (n := 20) rfl rfl (fun _ => ?_) (fun _ => ?_)
      · refine L_ic (pc' := 23) rfl q1_0 rfl ?_
        refine L_s (pc' := 25) (L' := [some (.ref 32), some (.int v1), some (.int v2), some (.ref 1015), some (.int 0)]) rfl rfl ?_
        refine L_s (pc' := 27) rfl rfl ?_
        refine L_s (pc' := 28) rfl rfl ?_
        refine L_kc (pc' := 31) (as := [.ref 1015]) (rest := [.int 0]) rfl rfl ((e_jS_length_c5 (by omega) _) (4) rfl) rfl ?_
        refine L_bf (c := (4 : Int32) ≤ 0) (t := 57) (n := 34) rfl rfl (by decide) ?_
        refine L_s (pc' := 35) rfl rfl ?_
        refine L_s (pc' := 36) rfl rfl ?_
        refine L_s (pc' := 38) rfl rfl ?_
        refine L_s (pc' := 39) rfl rfl ?_
        refine L_rB (pc' := 40) rfl sh_32 (by decide) (by decide) rfl ?_
        refine L_s (pc' := 41) rfl rfl ?_
        refine L_s (pc' := 43) rfl rfl ?_
        refine L_kc (pc' := 46) (as := [.ref 1015, .int 0]) (rest := [.int (g 32 (Int32.toNatClampNeg (v1 + 0)))]) rfl rfl ((e_jS_charAt_k0_c5 (by omega) _) (102) rfl) rfl ?_
        refine L_br (t := 51) (n := 49) rfl rfl (fun _ => ?_) (fun _ => ?_)
        · refine L_ii (pc' := 54) (L' := [some (.ref 32), some (.int v1), some (.int v2), some (.ref 1015), some (.int 1)]) rfl rfl q1_1 (by decide : (0 : Int32) + 1 = 1) rfl rfl ?_
          refine L_s (pc' := 25) rfl rfl ?_
          refine L_s (pc' := 27) rfl rfl ?_
          refine L_s (pc' := 28) rfl rfl ?_
          refine L_kc (pc' := 31) (as := [.ref 1015]) (rest := [.int 1]) rfl rfl ((e_jS_length_c5 (by omega) _) (4) rfl) rfl ?_
          refine L_bf (c := (4 : Int32) ≤ 1) (t := 57) (n := 34) rfl rfl (by decide) ?_
          refine L_s (pc' := 35) rfl rfl ?_
          refine L_s (pc' := 36) rfl rfl ?_
          refine L_s (pc' := 38) rfl rfl ?_
          refine L_s (pc' := 39) rfl rfl ?_
          refine L_rB (pc' := 40) rfl sh_32 (by decide) (by decide) rfl ?_
          refine L_s (pc' := 41) rfl rfl ?_
          refine L_s (pc' := 43) rfl rfl ?_
          refine L_kc (pc' := 46) (as := [.ref 1015, .int 1]) (rest := [.int (g 32 (Int32.toNatClampNeg (v1 + 1)))]) rfl rfl ((e_jS_charAt_k1_c5 (by omega) _) (114) rfl) rfl ?_
          refine L_br (t := 51) (n := 49) rfl rfl (fun _ => ?_) (fun _ => ?_)
          · refine L_ii (pc' := 54) (L' := [some (.ref 32), some (.int v1), some (.int v2), some (.ref 1015), some (.int 2)]) rfl rfl q1_1 (by decide : (1 : Int32) + 1 = 2) rfl rfl ?_
            refine L_s (pc' := 25) rfl rfl ?_
            refine L_s (pc' := 27) rfl rfl ?_
            refine L_s (pc' := 28) rfl rfl ?_
            refine L_kc (pc' := 31) (as := [.ref 1015]) (rest := [.int 2]) rfl rfl ((e_jS_length_c5 (by omega) _) (4) rfl) rfl ?_
            refine L_bf (c := (4 : Int32) ≤ 2) (t := 57) (n := 34) rfl rfl (by decide) ?_
            refine L_s (pc' := 35) rfl rfl ?_
            refine L_s (pc' := 36) rfl rfl ?_
            refine L_s (pc' := 38) rfl rfl ?_
            refine L_s (pc' := 39) rfl rfl ?_
            refine L_rB (pc' := 40) rfl sh_32 (by decide) (by decide) rfl ?_
            refine L_s (pc' := 41) rfl rfl ?_
            refine L_s (pc' := 43) rfl rfl ?_
            refine L_kc (pc' := 46) (as := [.ref 1015, .int 2]) (rest := [.int (g 32 (Int32.toNatClampNeg (v1 + 2)))]) rfl rfl ((e_jS_charAt_k2_c4 (by omega) _) (101) rfl) rfl ?_
            refine L_br (t := 51) (n := 49) rfl rfl (fun _ => ?_) (fun _ => ?_)
            · refine L_ii (pc' := 54) (L' := [some (.ref 32), some (.int v1), some (.int v2), some (.ref 1015), some (.int 3)]) rfl rfl q1_1 (by decide : (2 : Int32) + 1 = 3) rfl rfl ?_
              refine L_s (pc' := 25) rfl rfl ?_
              refine L_s (pc' := 27) rfl rfl ?_
              refine L_s (pc' := 28) rfl rfl ?_
              refine L_kc (pc' := 31) (as := [.ref 1015]) (rest := [.int 3]) rfl rfl ((e_jS_length_c5 (by omega) _) (4) rfl) rfl ?_
              refine L_bf (c := (4 : Int32) ≤ 3) (t := 57) (n := 34) rfl rfl (by decide) ?_
              refine L_s (pc' := 35) rfl rfl ?_
              refine L_s (pc' := 36) rfl rfl ?_
              refine L_s (pc' := 38) rfl rfl ?_
              refine L_s (pc' := 39) rfl rfl ?_
              refine L_rB (pc' := 40) rfl sh_32 (by decide) (by decide) rfl ?_
              refine L_s (pc' := 41) rfl rfl ?_
              refine L_s (pc' := 43) rfl rfl ?_
              refine L_kc (pc' := 46) (as := [.ref 1015, .int 3]) (rest := [.int (g 32 (Int32.toNatClampNeg (v1 + 3)))]) rfl rfl ((e_jS_charAt_k3_c1 (by omega) _) (101) rfl) rfl ?_
              refine L_br (t := 51) (n := 49) rfl rfl (fun _ => ?_) (fun _ => ?_)
              · refine L_ii (pc' := 54) (L' := [some (.ref 32), some (.int v1), some (.int v2), some (.ref 1015), some (.int 4)]) rfl rfl q1_1 (by decide : (3 : Int32) + 1 = 4) rfl rfl ?_
                refine L_s (pc' := 25) rfl rfl ?_
                refine L_s (pc' := 27) rfl rfl ?_
                refine L_s (pc' := 28) rfl rfl ?_
                refine L_kc (pc' := 31) (as := [.ref 1015]) (rest := [.int 4]) rfl rfl ((e_jS_length_c5 (by omega) _) (4) rfl) rfl ?_
                refine L_bt (c := (4 : Int32) ≤ 4) (t := 57) (n := 34) rfl rfl (by decide) ?_
                refine L_ic (pc' := 58) rfl q1_1 rfl ?_
                exact L_ret rfl (ret_z (by decide)) rfl
              · refine L_ic (pc' := 50) rfl q1_0 rfl ?_
                exact L_ret rfl (ret_z (by decide)) rfl
            · refine L_ic (pc' := 50) rfl q1_0 rfl ?_
              exact L_ret rfl (ret_z (by decide)) rfl
          · refine L_ic (pc' := 50) rfl q1_0 rfl ?_
            exact L_ret rfl (ret_z (by decide)) rfl
        · refine L_ic (pc' := 50) rfl q1_0 rfl ?_
          exact L_ret rfl (ret_z (by decide)) rfl
      · refine L_ic (pc' := 21) rfl q1_0 rfl ?_
        exact L_ret rfl (ret_z (by decide)) rfl
def tokens_textOf_k7  (g : Sg) : Option (Nat) :=
  (some 1016)
theorem e_tokens_textOf_k7 {X : Xx} {d : Nat} (hd : 1 ≤ d)  (g : Sg) : ∀ r, tokens_textOf_k7  g = some r → EvM zft mtl X d 85 [.int 7] (SHF, g) ((fun r : Nat => ((some (.ref r), (SHF, g)) : Out)) r) := by
  obtain ⟨d, rfl⟩ : ∃ d0, d = d0 + 1 := ⟨d - 1, by omega⟩
  have hd : 0 ≤ d := by omega
  refine E_in (f := (fun r : Nat => ((some (.ref r), (SHF, g)) : Out))) rfl (Nat.le_of_ble_eq_true rfl) ?_
  unfold tokens_textOf_k7
  change Lt X d (some (.object "java/lang/String")) k_85 _ 0 [some (.int 7)] [] g _
  refine L_s (pc' := 1) rfl rfl ?_
  refine L_ts (t := 78) (off := 77) rfl (by decide) rfl ?_
  refine L_s (pc' := 80) rfl rfl ?_
  exact L_ret rfl rfl rfl
def jS_coder_c6  (g : Sg) : Option (Int32) :=
  (some 0)
theorem e_jS_coder_c6 {X : Xx} {d : Nat} (hd : 1 ≤ d)  (g : Sg) : ∀ r, jS_coder_c6  g = some r → EvM zft mtl X d 234 [.ref 1016] (SHF, g) ((fun r : Int32 => ((some (.int r), (SHF, g)) : Out)) r) := by
  obtain ⟨d, rfl⟩ : ∃ d0, d = d0 + 1 := ⟨d - 1, by omega⟩
  have hd : 0 ≤ d := by omega
  refine E_in (f := (fun r : Int32 => ((some (.int r), (SHF, g)) : Out))) rfl (Nat.le_of_ble_eq_true rfl) ?_
  unfold jS_coder_c6
  change Lt X d (some .byte) k_234 _ 0 [some (.ref 1016)] [] g _
  refine L_s (pc' := 3) rfl rfl ?_
  refine L_bf (c := (1 : Int32) = 0) (t := 13) (n := 6) rfl rfl (by decide) ?_
  refine L_s (pc' := 7) rfl rfl ?_
  refine L_s (pc' := 10) (st' := [.int 0]) rfl rfl ?_
  refine L_s (pc' := 14) rfl rfl ?_
  exact L_ret rfl (by decide) rfl
def jS_length_c6  (g : Sg) : Option (Int32) :=
  (some 3)
theorem e_jS_length_c6 {X : Xx} {d : Nat} (hd : 2 ≤ d)  (g : Sg) : ∀ r, jS_length_c6  g = some r → EvM zft mtl X d 232 [.ref 1016] (SHF, g) ((fun r : Int32 => ((some (.int r), (SHF, g)) : Out)) r) := by
  obtain ⟨d, rfl⟩ : ∃ d0, d = d0 + 1 := ⟨d - 1, by omega⟩
  have hd : 1 ≤ d := by omega
  refine E_in (f := (fun r : Int32 => ((some (.int r), (SHF, g)) : Out))) rfl (Nat.le_of_ble_eq_true rfl) ?_
  unfold jS_length_c6
  change Lt X d (some .int) k_232 _ 0 [some (.ref 1016)] [] g _
  refine L_s (pc' := 1) rfl rfl ?_
  refine L_s (pc' := 4) (st' := [.ref 1036]) rfl rfl ?_
  refine L_s (pc' := 5) (st' := [.int 3]) rfl rfl ?_
  refine L_s (pc' := 6) rfl rfl ?_
  refine L_kc (pc' := 9) (as := [.ref 1016]) (rest := [.int 3]) rfl rfl ((e_jS_coder_c6 (by omega) _) (0) rfl) rfl ?_
  refine L_s (pc' := 10) rfl rfl ?_
  refine L_e (b := 3) (by decide) ?_
  exact L_ret rfl ret_i rfl
def jS_isLatin1_c6  (g : Sg) : Option (Int32) :=
  (some 1)
theorem e_jS_isLatin1_c6 {X : Xx} {d : Nat} (hd : 1 ≤ d)  (g : Sg) : ∀ r, jS_isLatin1_c6  g = some r → EvM zft mtl X d 235 [.ref 1016] (SHF, g) ((fun r : Int32 => ((some (.int r), (SHF, g)) : Out)) r) := by
  obtain ⟨d, rfl⟩ : ∃ d0, d = d0 + 1 := ⟨d - 1, by omega⟩
  have hd : 0 ≤ d := by omega
  refine E_in (f := (fun r : Int32 => ((some (.int r), (SHF, g)) : Out))) rfl (Nat.le_of_ble_eq_true rfl) ?_
  unfold jS_isLatin1_c6
  change Lt X d (some .boolean) k_235 _ 0 [some (.ref 1016)] [] g _
  refine L_s (pc' := 3) rfl rfl ?_
  refine L_bf (c := (1 : Int32) = 0) (t := 17) (n := 6) rfl rfl (by decide) ?_
  refine L_s (pc' := 7) rfl rfl ?_
  refine L_s (pc' := 10) (st' := [.int 0]) rfl rfl ?_
  refine L_bf (c := ¬ (0 : Int32) = 0) (t := 17) (n := 13) rfl rfl (by decide) ?_
  refine L_ic (pc' := 14) rfl q1_1 rfl ?_
  refine L_s (pc' := 18) rfl rfl ?_
  exact L_ret rfl (ret_z (by decide)) rfl
def jL_charAt_k0_c6  (g : Sg) : Option (Int32) :=
  (some 100)
theorem e_jL_charAt_k0_c6 {X : Xx} {d : Nat} (hd : 3 ≤ d)  (g : Sg) : ∀ r, jL_charAt_k0_c6  g = some r → EvM zft mtl X d 237 [.ref 1036, .int 0] (SHF, g) ((fun r : Int32 => ((some (.int r), (SHF, g)) : Out)) r) := by
  obtain ⟨d, rfl⟩ : ∃ d0, d = d0 + 1 := ⟨d - 1, by omega⟩
  have hd : 2 ≤ d := by omega
  refine E_in (f := (fun r : Int32 => ((some (.int r), (SHF, g)) : Out))) rfl (Nat.le_of_ble_eq_true rfl) ?_
  unfold jL_charAt_k0_c6
  change Lt X d (some .char) k_237 _ 0 [some (.ref 1036), some (.int 0)] [] g _
  refine L_s (pc' := 1) rfl rfl ?_
  refine L_s (pc' := 2) rfl rfl ?_
  refine L_s (pc' := 3) (st' := [.int 3, .int 0]) rfl rfl ?_
  refine L_ku (pc' := 6) (as := [.int 0, .int 3]) (rest := []) rfl rfl ((e_jS_checkIndex_k0_3 (by omega) _) () rfl) rfl ?_
  refine L_s (pc' := 7) rfl rfl ?_
  refine L_s (pc' := 8) rfl rfl ?_
  refine L_xBk (pc' := 9) rfl (rfl : xsh X 1036 = _) (by decide) (by decide) (rfl : _ = (100 : Int32)) rfl ?_
  refine L_si (pc' := 12) rfl q3_255 rfl ?_
  refine L_s (pc' := 13) rfl rfl ?_
  refine L_e (b := 100) (by decide) ?_
  refine L_s (pc' := 14) rfl rfl ?_
  refine L_e (b := 100) (by decide) ?_
  exact L_ret rfl (by decide) rfl
def jS_charAt_k0_c6  (g : Sg) : Option (Int32) :=
  (some 100)
theorem e_jS_charAt_k0_c6 {X : Xx} {d : Nat} (hd : 4 ≤ d)  (g : Sg) : ∀ r, jS_charAt_k0_c6  g = some r → EvM zft mtl X d 233 [.ref 1016, .int 0] (SHF, g) ((fun r : Int32 => ((some (.int r), (SHF, g)) : Out)) r) := by
  obtain ⟨d, rfl⟩ : ∃ d0, d = d0 + 1 := ⟨d - 1, by omega⟩
  have hd : 3 ≤ d := by omega
  refine E_in (f := (fun r : Int32 => ((some (.int r), (SHF, g)) : Out))) rfl (Nat.le_of_ble_eq_true rfl) ?_
  unfold jS_charAt_k0_c6
  change Lt X d (some .char) k_233 _ 0 [some (.ref 1016), some (.int 0)] [] g _
  refine L_s (pc' := 1) rfl rfl ?_
  refine L_kc (pc' := 4) (as := [.ref 1016]) (rest := []) rfl rfl ((e_jS_isLatin1_c6 (by omega) _) (1) rfl) rfl ?_
  refine L_bf (c := (1 : Int32) = 0) (t := 16) (n := 7) rfl rfl (by decide) ?_
  refine L_s (pc' := 8) rfl rfl ?_
  refine L_s (pc' := 11) (st' := [.ref 1036]) rfl rfl ?_
  refine L_s (pc' := 12) rfl rfl ?_
  refine L_kc (pc' := 15) (as := [.ref 1036, .int 0]) (rest := []) rfl rfl ((e_jL_charAt_k0_c6 (by omega) _) (100) rfl) rfl ?_
  exact L_ret rfl (by decide) rfl
def jL_charAt_k1_c6  (g : Sg) : Option (Int32) :=
  (some 114)
theorem e_jL_charAt_k1_c6 {X : Xx} {d : Nat} (hd : 3 ≤ d)  (g : Sg) : ∀ r, jL_charAt_k1_c6  g = some r → EvM zft mtl X d 237 [.ref 1036, .int 1] (SHF, g) ((fun r : Int32 => ((some (.int r), (SHF, g)) : Out)) r) := by
  obtain ⟨d, rfl⟩ : ∃ d0, d = d0 + 1 := ⟨d - 1, by omega⟩
  have hd : 2 ≤ d := by omega
  refine E_in (f := (fun r : Int32 => ((some (.int r), (SHF, g)) : Out))) rfl (Nat.le_of_ble_eq_true rfl) ?_
  unfold jL_charAt_k1_c6
  change Lt X d (some .char) k_237 _ 0 [some (.ref 1036), some (.int 1)] [] g _
  refine L_s (pc' := 1) rfl rfl ?_
  refine L_s (pc' := 2) rfl rfl ?_
  refine L_s (pc' := 3) (st' := [.int 3, .int 1]) rfl rfl ?_
  refine L_ku (pc' := 6) (as := [.int 1, .int 3]) (rest := []) rfl rfl ((e_jS_checkIndex_k1_3 (by omega) _) () rfl) rfl ?_
  refine L_s (pc' := 7) rfl rfl ?_
  refine L_s (pc' := 8) rfl rfl ?_
  refine L_xBk (pc' := 9) rfl (rfl : xsh X 1036 = _) (by decide) (by decide) (rfl : _ = (114 : Int32)) rfl ?_
  refine L_si (pc' := 12) rfl q3_255 rfl ?_
  refine L_s (pc' := 13) rfl rfl ?_
  refine L_e (b := 114) (by decide) ?_
  refine L_s (pc' := 14) rfl rfl ?_
  refine L_e (b := 114) (by decide) ?_
  exact L_ret rfl (by decide) rfl
def jS_charAt_k1_c6  (g : Sg) : Option (Int32) :=
  (some 114)
theorem e_jS_charAt_k1_c6 {X : Xx} {d : Nat} (hd : 4 ≤ d)  (g : Sg) : ∀ r, jS_charAt_k1_c6  g = some r → EvM zft mtl X d 233 [.ref 1016, .int 1] (SHF, g) ((fun r : Int32 => ((some (.int r), (SHF, g)) : Out)) r) := by
  obtain ⟨d, rfl⟩ : ∃ d0, d = d0 + 1 := ⟨d - 1, by omega⟩
  have hd : 3 ≤ d := by omega
  refine E_in (f := (fun r : Int32 => ((some (.int r), (SHF, g)) : Out))) rfl (Nat.le_of_ble_eq_true rfl) ?_
  unfold jS_charAt_k1_c6
  change Lt X d (some .char) k_233 _ 0 [some (.ref 1016), some (.int 1)] [] g _
  refine L_s (pc' := 1) rfl rfl ?_
  refine L_kc (pc' := 4) (as := [.ref 1016]) (rest := []) rfl rfl ((e_jS_isLatin1_c6 (by omega) _) (1) rfl) rfl ?_
  refine L_bf (c := (1 : Int32) = 0) (t := 16) (n := 7) rfl rfl (by decide) ?_
  refine L_s (pc' := 8) rfl rfl ?_
  refine L_s (pc' := 11) (st' := [.ref 1036]) rfl rfl ?_
  refine L_s (pc' := 12) rfl rfl ?_
  refine L_kc (pc' := 15) (as := [.ref 1036, .int 1]) (rest := []) rfl rfl ((e_jL_charAt_k1_c6 (by omega) _) (114) rfl) rfl ?_
  exact L_ret rfl (by decide) rfl
def jL_charAt_k2_c5  (g : Sg) : Option (Int32) :=
  (some 121)
theorem e_jL_charAt_k2_c5 {X : Xx} {d : Nat} (hd : 3 ≤ d)  (g : Sg) : ∀ r, jL_charAt_k2_c5  g = some r → EvM zft mtl X d 237 [.ref 1036, .int 2] (SHF, g) ((fun r : Int32 => ((some (.int r), (SHF, g)) : Out)) r) := by
  obtain ⟨d, rfl⟩ : ∃ d0, d = d0 + 1 := ⟨d - 1, by omega⟩
  have hd : 2 ≤ d := by omega
  refine E_in (f := (fun r : Int32 => ((some (.int r), (SHF, g)) : Out))) rfl (Nat.le_of_ble_eq_true rfl) ?_
  unfold jL_charAt_k2_c5
  change Lt X d (some .char) k_237 _ 0 [some (.ref 1036), some (.int 2)] [] g _
  refine L_s (pc' := 1) rfl rfl ?_
  refine L_s (pc' := 2) rfl rfl ?_
  refine L_s (pc' := 3) (st' := [.int 3, .int 2]) rfl rfl ?_
  refine L_ku (pc' := 6) (as := [.int 2, .int 3]) (rest := []) rfl rfl ((e_jS_checkIndex_k2_3 (by omega) _) () rfl) rfl ?_
  refine L_s (pc' := 7) rfl rfl ?_
  refine L_s (pc' := 8) rfl rfl ?_
  refine L_xBk (pc' := 9) rfl (rfl : xsh X 1036 = _) (by decide) (by decide) (rfl : _ = (121 : Int32)) rfl ?_
  refine L_si (pc' := 12) rfl q3_255 rfl ?_
  refine L_s (pc' := 13) rfl rfl ?_
  refine L_e (b := 121) (by decide) ?_
  refine L_s (pc' := 14) rfl rfl ?_
  refine L_e (b := 121) (by decide) ?_
  exact L_ret rfl (by decide) rfl
def jS_charAt_k2_c5  (g : Sg) : Option (Int32) :=
  (some 121)
theorem e_jS_charAt_k2_c5 {X : Xx} {d : Nat} (hd : 4 ≤ d)  (g : Sg) : ∀ r, jS_charAt_k2_c5  g = some r → EvM zft mtl X d 233 [.ref 1016, .int 2] (SHF, g) ((fun r : Int32 => ((some (.int r), (SHF, g)) : Out)) r) := by
  obtain ⟨d, rfl⟩ : ∃ d0, d = d0 + 1 := ⟨d - 1, by omega⟩
  have hd : 3 ≤ d := by omega
  refine E_in (f := (fun r : Int32 => ((some (.int r), (SHF, g)) : Out))) rfl (Nat.le_of_ble_eq_true rfl) ?_
  unfold jS_charAt_k2_c5
  change Lt X d (some .char) k_233 _ 0 [some (.ref 1016), some (.int 2)] [] g _
  refine L_s (pc' := 1) rfl rfl ?_
  refine L_kc (pc' := 4) (as := [.ref 1016]) (rest := []) rfl rfl ((e_jS_isLatin1_c6 (by omega) _) (1) rfl) rfl ?_
  refine L_bf (c := (1 : Int32) = 0) (t := 16) (n := 7) rfl rfl (by decide) ?_
  refine L_s (pc' := 8) rfl rfl ?_
  refine L_s (pc' := 11) (st' := [.ref 1036]) rfl rfl ?_
  refine L_s (pc' := 12) rfl rfl ?_
  refine L_kc (pc' := 15) (as := [.ref 1036, .int 2]) (rest := []) rfl rfl ((e_jL_charAt_k2_c5 (by omega) _) (121) rfl) rfl ?_
  exact L_ret rfl (by decide) rfl
def tokens_isWord_c6 (v1 : Int32) (v2 : Int32) (g : Sg) : Option (Int32) :=
  (if ¬ (v2 - v1) = 3 then
    (some 0)
  else
    (if v1 < 0 then
      (some 0)
    else
      (if v2 ≤ 500 then
        (if inb (v1 + 0) 500 = true then (if (g 32 (Int32.toNatClampNeg (v1 + 0))) = 100 then
          (if inb (v1 + 1) 500 = true then (if (g 32 (Int32.toNatClampNeg (v1 + 1))) = 114 then
            (if inb (v1 + 2) 500 = true then (if (g 32 (Int32.toNatClampNeg (v1 + 2))) = 121 then
              (some 1)
            else
              (some 0)) else none)
          else
            (some 0)) else none)
        else
          (some 0)) else none)
      else
        (some 0))))
theorem e_tokens_isWord_c6 {X : Xx} {d : Nat} (hd : 5 ≤ d) (v1 : Int32) (v2 : Int32) (g : Sg) : ∀ r, tokens_isWord_c6 v1 v2 g = some r → EvM zft mtl X d 86 [.ref 32, .int v1, .int v2, .ref 1016] (SHF, g) ((fun r : Int32 => ((some (.int r), (SHF, g)) : Out)) r) := by
  obtain ⟨d, rfl⟩ : ∃ d0, d = d0 + 1 := ⟨d - 1, by omega⟩
  have hd : 4 ≤ d := by omega
  refine E_in (f := (fun r : Int32 => ((some (.int r), (SHF, g)) : Out))) rfl (Nat.le_of_ble_eq_true rfl) ?_
  unfold tokens_isWord_c6
  change Lt X d (some .boolean) k_86 _ 0 [some (.ref 32), some (.int v1), some (.int v2), some (.ref 1016), none] [] g _
  refine L_s (pc' := 1) rfl rfl ?_
  refine L_s (pc' := 2) rfl rfl ?_
  refine L_s (pc' := 3) rfl rfl ?_
  refine L_s (pc' := 4) rfl rfl ?_
  refine L_kc (pc' := 7) (as := [.ref 1016]) (rest := [.int (v2 - v1)]) rfl rfl ((e_jS_length_c6 (by omega) _) (3) rfl) rfl ?_
  refine L_br (t := 20) (n := 10) rfl rfl (fun _ => ?_) (fun _ => ?_)
  · refine L_ic (pc' := 21) rfl q1_0 rfl ?_
    exact L_ret rfl (ret_z (by decide)) rfl
  · refine L_s (pc' := 11) rfl rfl ?_
    refine L_br (t := 20) (n := 14) rfl rfl (fun _ => ?_) (fun _ => ?_)
    · refine L_ic (pc' := 21) rfl q1_0 rfl ?_
      exact L_ret rfl (ret_z (by decide)) rfl
    · refine L_s (pc' := 15) rfl rfl ?_
      refine L_s (pc' := 16) rfl rfl ?_
      refine L_s (pc' := 17) (st' := [.int 500, .int v2]) rfl rfl ?_
      refine L_br (t := 22) (n := 20) rfl rfl (fun _ => ?_) (fun _ => ?_)
      · refine L_ic (pc' := 23) rfl q1_0 rfl ?_
        refine L_s (pc' := 25) (L' := [some (.ref 32), some (.int v1), some (.int v2), some (.ref 1016), some (.int 0)]) rfl rfl ?_
        refine L_s (pc' := 27) rfl rfl ?_
        refine L_s (pc' := 28) rfl rfl ?_
        refine L_kc (pc' := 31) (as := [.ref 1016]) (rest := [.int 0]) rfl rfl ((e_jS_length_c6 (by omega) _) (3) rfl) rfl ?_
        refine L_bf (c := (3 : Int32) ≤ 0) (t := 57) (n := 34) rfl rfl (by decide) ?_
        refine L_s (pc' := 35) rfl rfl ?_
        refine L_s (pc' := 36) rfl rfl ?_
        refine L_s (pc' := 38) rfl rfl ?_
        refine L_s (pc' := 39) rfl rfl ?_
        refine L_rB (pc' := 40) rfl sh_32 (by decide) (by decide) rfl ?_
        refine L_s (pc' := 41) rfl rfl ?_
        refine L_s (pc' := 43) rfl rfl ?_
        refine L_kc (pc' := 46) (as := [.ref 1016, .int 0]) (rest := [.int (g 32 (Int32.toNatClampNeg (v1 + 0)))]) rfl rfl ((e_jS_charAt_k0_c6 (by omega) _) (100) rfl) rfl ?_
        refine L_br (t := 51) (n := 49) rfl rfl (fun _ => ?_) (fun _ => ?_)
        · refine L_ii (pc' := 54) (L' := [some (.ref 32), some (.int v1), some (.int v2), some (.ref 1016), some (.int 1)]) rfl rfl q1_1 (by decide : (0 : Int32) + 1 = 1) rfl rfl ?_
          refine L_s (pc' := 25) rfl rfl ?_
          refine L_s (pc' := 27) rfl rfl ?_
          refine L_s (pc' := 28) rfl rfl ?_
          refine L_kc (pc' := 31) (as := [.ref 1016]) (rest := [.int 1]) rfl rfl ((e_jS_length_c6 (by omega) _) (3) rfl) rfl ?_
          refine L_bf (c := (3 : Int32) ≤ 1) (t := 57) (n := 34) rfl rfl (by decide) ?_
          refine L_s (pc' := 35) rfl rfl ?_
          refine L_s (pc' := 36) rfl rfl ?_
          refine L_s (pc' := 38) rfl rfl ?_
          refine L_s (pc' := 39) rfl rfl ?_
          refine L_rB (pc' := 40) rfl sh_32 (by decide) (by decide) rfl ?_
          refine L_s (pc' := 41) rfl rfl ?_
          refine L_s (pc' := 43) rfl rfl ?_
          refine L_kc (pc' := 46) (as := [.ref 1016, .int 1]) (rest := [.int (g 32 (Int32.toNatClampNeg (v1 + 1)))]) rfl rfl ((e_jS_charAt_k1_c6 (by omega) _) (114) rfl) rfl ?_
          refine L_br (t := 51) (n := 49) rfl rfl (fun _ => ?_) (fun _ => ?_)
          · refine L_ii (pc' := 54) (L' := [some (.ref 32), some (.int v1), some (.int v2), some (.ref 1016), some (.int 2)]) rfl rfl q1_1 (by decide : (1 : Int32) + 1 = 2) rfl rfl ?_
            refine L_s (pc' := 25) rfl rfl ?_
            refine L_s (pc' := 27) rfl rfl ?_
            refine L_s (pc' := 28) rfl rfl ?_
            refine L_kc (pc' := 31) (as := [.ref 1016]) (rest := [.int 2]) rfl rfl ((e_jS_length_c6 (by omega) _) (3) rfl) rfl ?_
            refine L_bf (c := (3 : Int32) ≤ 2) (t := 57) (n := 34) rfl rfl (by decide) ?_
            refine L_s (pc' := 35) rfl rfl ?_
            refine L_s (pc' := 36) rfl rfl ?_
            refine L_s (pc' := 38) rfl rfl ?_
            refine L_s (pc' := 39) rfl rfl ?_
            refine L_rB (pc' := 40) rfl sh_32 (by decide) (by decide) rfl ?_
            refine L_s (pc' := 41) rfl rfl ?_
            refine L_s (pc' := 43) rfl rfl ?_
            refine L_kc (pc' := 46) (as := [.ref 1016, .int 2]) (rest := [.int (g 32 (Int32.toNatClampNeg (v1 + 2)))]) rfl rfl ((e_jS_charAt_k2_c5 (by omega) _) (121) rfl) rfl ?_
            refine L_br (t := 51) (n := 49) rfl rfl (fun _ => ?_) (fun _ => ?_)
            · refine L_ii (pc' := 54) (L' := [some (.ref 32), some (.int v1), some (.int v2), some (.ref 1016), some (.int 3)]) rfl rfl q1_1 (by decide : (2 : Int32) + 1 = 3) rfl rfl ?_
              refine L_s (pc' := 25) rfl rfl ?_
              refine L_s (pc' := 27) rfl rfl ?_
              refine L_s (pc' := 28) rfl rfl ?_
              refine L_kc (pc' := 31) (as := [.ref 1016]) (rest := [.int 3]) rfl rfl ((e_jS_length_c6 (by omega) _) (3) rfl) rfl ?_
              refine L_bt (c := (3 : Int32) ≤ 3) (t := 57) (n := 34) rfl rfl (by decide) ?_
              refine L_ic (pc' := 58) rfl q1_1 rfl ?_
              exact L_ret rfl (ret_z (by decide)) rfl
            · refine L_ic (pc' := 50) rfl q1_0 rfl ?_
              exact L_ret rfl (ret_z (by decide)) rfl
          · refine L_ic (pc' := 50) rfl q1_0 rfl ?_
            exact L_ret rfl (ret_z (by decide)) rfl
        · refine L_ic (pc' := 50) rfl q1_0 rfl ?_
          exact L_ret rfl (ret_z (by decide)) rfl
      · refine L_ic (pc' := 21) rfl q1_0 rfl ?_
        exact L_ret rfl (ret_z (by decide)) rfl
def tokens_textOf_k8  (g : Sg) : Option (Nat) :=
  (some 1017)
theorem e_tokens_textOf_k8 {X : Xx} {d : Nat} (hd : 1 ≤ d)  (g : Sg) : ∀ r, tokens_textOf_k8  g = some r → EvM zft mtl X d 85 [.int 8] (SHF, g) ((fun r : Nat => ((some (.ref r), (SHF, g)) : Out)) r) := by
  obtain ⟨d, rfl⟩ : ∃ d0, d = d0 + 1 := ⟨d - 1, by omega⟩
  have hd : 0 ≤ d := by omega
  refine E_in (f := (fun r : Nat => ((some (.ref r), (SHF, g)) : Out))) rfl (Nat.le_of_ble_eq_true rfl) ?_
  unfold tokens_textOf_k8
  change Lt X d (some (.object "java/lang/String")) k_85 _ 0 [some (.int 8)] [] g _
  refine L_s (pc' := 1) rfl rfl ?_
  refine L_ts (t := 81) (off := 80) rfl (by decide) rfl ?_
  refine L_s (pc' := 83) rfl rfl ?_
  exact L_ret rfl rfl rfl
def jS_coder_c7  (g : Sg) : Option (Int32) :=
  (some 0)
theorem e_jS_coder_c7 {X : Xx} {d : Nat} (hd : 1 ≤ d)  (g : Sg) : ∀ r, jS_coder_c7  g = some r → EvM zft mtl X d 234 [.ref 1017] (SHF, g) ((fun r : Int32 => ((some (.int r), (SHF, g)) : Out)) r) := by
  obtain ⟨d, rfl⟩ : ∃ d0, d = d0 + 1 := ⟨d - 1, by omega⟩
  have hd : 0 ≤ d := by omega
  refine E_in (f := (fun r : Int32 => ((some (.int r), (SHF, g)) : Out))) rfl (Nat.le_of_ble_eq_true rfl) ?_
  unfold jS_coder_c7
  change Lt X d (some .byte) k_234 _ 0 [some (.ref 1017)] [] g _
  refine L_s (pc' := 3) rfl rfl ?_
  refine L_bf (c := (1 : Int32) = 0) (t := 13) (n := 6) rfl rfl (by decide) ?_
  refine L_s (pc' := 7) rfl rfl ?_
  refine L_s (pc' := 10) (st' := [.int 0]) rfl rfl ?_
  refine L_s (pc' := 14) rfl rfl ?_
  exact L_ret rfl (by decide) rfl
def jS_length_c7  (g : Sg) : Option (Int32) :=
  (some 5)
theorem e_jS_length_c7 {X : Xx} {d : Nat} (hd : 2 ≤ d)  (g : Sg) : ∀ r, jS_length_c7  g = some r → EvM zft mtl X d 232 [.ref 1017] (SHF, g) ((fun r : Int32 => ((some (.int r), (SHF, g)) : Out)) r) := by
  obtain ⟨d, rfl⟩ : ∃ d0, d = d0 + 1 := ⟨d - 1, by omega⟩
  have hd : 1 ≤ d := by omega
  refine E_in (f := (fun r : Int32 => ((some (.int r), (SHF, g)) : Out))) rfl (Nat.le_of_ble_eq_true rfl) ?_
  unfold jS_length_c7
  change Lt X d (some .int) k_232 _ 0 [some (.ref 1017)] [] g _
  refine L_s (pc' := 1) rfl rfl ?_
  refine L_s (pc' := 4) (st' := [.ref 1037]) rfl rfl ?_
  refine L_s (pc' := 5) (st' := [.int 5]) rfl rfl ?_
  refine L_s (pc' := 6) rfl rfl ?_
  refine L_kc (pc' := 9) (as := [.ref 1017]) (rest := [.int 5]) rfl rfl ((e_jS_coder_c7 (by omega) _) (0) rfl) rfl ?_
  refine L_s (pc' := 10) rfl rfl ?_
  refine L_e (b := 5) (by decide) ?_
  exact L_ret rfl ret_i rfl
def jS_isLatin1_c7  (g : Sg) : Option (Int32) :=
  (some 1)
theorem e_jS_isLatin1_c7 {X : Xx} {d : Nat} (hd : 1 ≤ d)  (g : Sg) : ∀ r, jS_isLatin1_c7  g = some r → EvM zft mtl X d 235 [.ref 1017] (SHF, g) ((fun r : Int32 => ((some (.int r), (SHF, g)) : Out)) r) := by
  obtain ⟨d, rfl⟩ : ∃ d0, d = d0 + 1 := ⟨d - 1, by omega⟩
  have hd : 0 ≤ d := by omega
  refine E_in (f := (fun r : Int32 => ((some (.int r), (SHF, g)) : Out))) rfl (Nat.le_of_ble_eq_true rfl) ?_
  unfold jS_isLatin1_c7
  change Lt X d (some .boolean) k_235 _ 0 [some (.ref 1017)] [] g _
  refine L_s (pc' := 3) rfl rfl ?_
  refine L_bf (c := (1 : Int32) = 0) (t := 17) (n := 6) rfl rfl (by decide) ?_
  refine L_s (pc' := 7) rfl rfl ?_
  refine L_s (pc' := 10) (st' := [.int 0]) rfl rfl ?_
  refine L_bf (c := ¬ (0 : Int32) = 0) (t := 17) (n := 13) rfl rfl (by decide) ?_
  refine L_ic (pc' := 14) rfl q1_1 rfl ?_
  refine L_s (pc' := 18) rfl rfl ?_
  exact L_ret rfl (ret_z (by decide)) rfl
def jP_checkIndex_k0_5  (g : Sg) : Option (Int32) :=
  (some 0)
theorem e_jP_checkIndex_k0_5 {X : Xx} {d : Nat} (hd : 1 ≤ d)  (g : Sg) : ∀ r, jP_checkIndex_k0_5  g = some r → EvM zft mtl X d 239 [.int 0, .int 5, .null] (SHF, g) ((fun r : Int32 => ((some (.int r), (SHF, g)) : Out)) r) := by
  obtain ⟨d, rfl⟩ : ∃ d0, d = d0 + 1 := ⟨d - 1, by omega⟩
  have hd : 0 ≤ d := by omega
  refine E_in (f := (fun r : Int32 => ((some (.int r), (SHF, g)) : Out))) rfl (Nat.le_of_ble_eq_true rfl) ?_
  unfold jP_checkIndex_k0_5
  change Lt X d (some .int) k_239 _ 0 [some (.int 0), some (.int 5), some (.null)] [] g _
  refine L_s (pc' := 1) rfl rfl ?_
  refine L_bf (c := (0 : Int32) < 0) (t := 9) (n := 4) rfl rfl (by decide) ?_
  refine L_s (pc' := 5) rfl rfl ?_
  refine L_s (pc' := 6) rfl rfl ?_
  refine L_bt (c := (0 : Int32) < 5) (t := 16) (n := 9) rfl rfl (by decide) ?_
  refine L_s (pc' := 17) rfl rfl ?_
  exact L_ret rfl ret_i rfl
def jP_checkIndex_k0_5_c1  (g : Sg) : Option (Int32) :=
  (some 0)
theorem e_jP_checkIndex_k0_5_c1 {X : Xx} {d : Nat} (hd : 1 ≤ d)  (g : Sg) : ∀ r, jP_checkIndex_k0_5_c1  g = some r → EvM zft mtl X d 239 [.int 0, .int 5, .ref 1100] (SHF, g) ((fun r : Int32 => ((some (.int r), (SHF, g)) : Out)) r) := by
  obtain ⟨d, rfl⟩ : ∃ d0, d = d0 + 1 := ⟨d - 1, by omega⟩
  have hd : 0 ≤ d := by omega
  refine E_in (f := (fun r : Int32 => ((some (.int r), (SHF, g)) : Out))) rfl (Nat.le_of_ble_eq_true rfl) ?_
  unfold jP_checkIndex_k0_5_c1
  change Lt X d (some .int) k_239 _ 0 [some (.int 0), some (.int 5), some (.ref 1100)] [] g _
  refine L_s (pc' := 1) rfl rfl ?_
  refine L_bf (c := (0 : Int32) < 0) (t := 9) (n := 4) rfl rfl (by decide) ?_
  refine L_s (pc' := 5) rfl rfl ?_
  refine L_s (pc' := 6) rfl rfl ?_
  refine L_bt (c := (0 : Int32) < 5) (t := 16) (n := 9) rfl rfl (by decide) ?_
  refine L_s (pc' := 17) rfl rfl ?_
  exact L_ret rfl ret_i rfl
def jS_checkIndex_k0_5  (g : Sg) : Option (Unit) :=
  (some ())
theorem e_jS_checkIndex_k0_5 {X : Xx} {d : Nat} (hd : 2 ≤ d)  (g : Sg) : ∀ r, jS_checkIndex_k0_5  g = some r → EvM zft mtl X d 236 [.int 0, .int 5] (SHF, g) ((fun r : Unit => ((none, (SHF, g)) : Out)) r) := by
  obtain ⟨d, rfl⟩ : ∃ d0, d = d0 + 1 := ⟨d - 1, by omega⟩
  have hd : 1 ≤ d := by omega
  refine E_in (f := (fun r : Unit => ((none, (SHF, g)) : Out))) rfl (Nat.le_of_ble_eq_true rfl) ?_
  unfold jS_checkIndex_k0_5
  change Lt X d none k_236 _ 0 [some (.int 0), some (.int 5)] [] g _
  refine L_s (pc' := 1) rfl rfl ?_
  refine L_s (pc' := 2) rfl rfl ?_
  refine L_x3 (pc' := 5) rfl rfl (fun _ => ?_) (fun _ => ?_)
  · refine L_kc (pc' := 8) (as := [.int 0, .int 5, .null]) (rest := []) rfl rfl ((e_jP_checkIndex_k0_5 (by omega) _) (0) rfl) rfl ?_
    refine L_s (pc' := 9) rfl rfl ?_
    exact L_ret rfl rfl rfl
  · refine L_kc (pc' := 8) (as := [.int 0, .int 5, .ref 1100]) (rest := []) rfl rfl ((e_jP_checkIndex_k0_5_c1 (by omega) _) (0) rfl) rfl ?_
    refine L_s (pc' := 9) rfl rfl ?_
    exact L_ret rfl rfl rfl
def jL_charAt_k0_c7  (g : Sg) : Option (Int32) :=
  (some 104)
theorem e_jL_charAt_k0_c7 {X : Xx} {d : Nat} (hd : 3 ≤ d)  (g : Sg) : ∀ r, jL_charAt_k0_c7  g = some r → EvM zft mtl X d 237 [.ref 1037, .int 0] (SHF, g) ((fun r : Int32 => ((some (.int r), (SHF, g)) : Out)) r) := by
  obtain ⟨d, rfl⟩ : ∃ d0, d = d0 + 1 := ⟨d - 1, by omega⟩
  have hd : 2 ≤ d := by omega
  refine E_in (f := (fun r : Int32 => ((some (.int r), (SHF, g)) : Out))) rfl (Nat.le_of_ble_eq_true rfl) ?_
  unfold jL_charAt_k0_c7
  change Lt X d (some .char) k_237 _ 0 [some (.ref 1037), some (.int 0)] [] g _
  refine L_s (pc' := 1) rfl rfl ?_
  refine L_s (pc' := 2) rfl rfl ?_
  refine L_s (pc' := 3) (st' := [.int 5, .int 0]) rfl rfl ?_
  refine L_ku (pc' := 6) (as := [.int 0, .int 5]) (rest := []) rfl rfl ((e_jS_checkIndex_k0_5 (by omega) _) () rfl) rfl ?_
  refine L_s (pc' := 7) rfl rfl ?_
  refine L_s (pc' := 8) rfl rfl ?_
  refine L_xBk (pc' := 9) rfl (rfl : xsh X 1037 = _) (by decide) (by decide) (rfl : _ = (104 : Int32)) rfl ?_
  refine L_si (pc' := 12) rfl q3_255 rfl ?_
  refine L_s (pc' := 13) rfl rfl ?_
  refine L_e (b := 104) (by decide) ?_
  refine L_s (pc' := 14) rfl rfl ?_
  refine L_e (b := 104) (by decide) ?_
  exact L_ret rfl (by decide) rfl
def jS_charAt_k0_c7  (g : Sg) : Option (Int32) :=
  (some 104)
theorem e_jS_charAt_k0_c7 {X : Xx} {d : Nat} (hd : 4 ≤ d)  (g : Sg) : ∀ r, jS_charAt_k0_c7  g = some r → EvM zft mtl X d 233 [.ref 1017, .int 0] (SHF, g) ((fun r : Int32 => ((some (.int r), (SHF, g)) : Out)) r) := by
  obtain ⟨d, rfl⟩ : ∃ d0, d = d0 + 1 := ⟨d - 1, by omega⟩
  have hd : 3 ≤ d := by omega
  refine E_in (f := (fun r : Int32 => ((some (.int r), (SHF, g)) : Out))) rfl (Nat.le_of_ble_eq_true rfl) ?_
  unfold jS_charAt_k0_c7
  change Lt X d (some .char) k_233 _ 0 [some (.ref 1017), some (.int 0)] [] g _
  refine L_s (pc' := 1) rfl rfl ?_
  refine L_kc (pc' := 4) (as := [.ref 1017]) (rest := []) rfl rfl ((e_jS_isLatin1_c7 (by omega) _) (1) rfl) rfl ?_
  refine L_bf (c := (1 : Int32) = 0) (t := 16) (n := 7) rfl rfl (by decide) ?_
  refine L_s (pc' := 8) rfl rfl ?_
  refine L_s (pc' := 11) (st' := [.ref 1037]) rfl rfl ?_
  refine L_s (pc' := 12) rfl rfl ?_
  refine L_kc (pc' := 15) (as := [.ref 1037, .int 0]) (rest := []) rfl rfl ((e_jL_charAt_k0_c7 (by omega) _) (104) rfl) rfl ?_
  exact L_ret rfl (by decide) rfl
def jP_checkIndex_k1_5  (g : Sg) : Option (Int32) :=
  (some 1)
theorem e_jP_checkIndex_k1_5 {X : Xx} {d : Nat} (hd : 1 ≤ d)  (g : Sg) : ∀ r, jP_checkIndex_k1_5  g = some r → EvM zft mtl X d 239 [.int 1, .int 5, .null] (SHF, g) ((fun r : Int32 => ((some (.int r), (SHF, g)) : Out)) r) := by
  obtain ⟨d, rfl⟩ : ∃ d0, d = d0 + 1 := ⟨d - 1, by omega⟩
  have hd : 0 ≤ d := by omega
  refine E_in (f := (fun r : Int32 => ((some (.int r), (SHF, g)) : Out))) rfl (Nat.le_of_ble_eq_true rfl) ?_
  unfold jP_checkIndex_k1_5
  change Lt X d (some .int) k_239 _ 0 [some (.int 1), some (.int 5), some (.null)] [] g _
  refine L_s (pc' := 1) rfl rfl ?_
  refine L_bf (c := (1 : Int32) < 0) (t := 9) (n := 4) rfl rfl (by decide) ?_
  refine L_s (pc' := 5) rfl rfl ?_
  refine L_s (pc' := 6) rfl rfl ?_
  refine L_bt (c := (1 : Int32) < 5) (t := 16) (n := 9) rfl rfl (by decide) ?_
  refine L_s (pc' := 17) rfl rfl ?_
  exact L_ret rfl ret_i rfl
def jP_checkIndex_k1_5_c1  (g : Sg) : Option (Int32) :=
  (some 1)
theorem e_jP_checkIndex_k1_5_c1 {X : Xx} {d : Nat} (hd : 1 ≤ d)  (g : Sg) : ∀ r, jP_checkIndex_k1_5_c1  g = some r → EvM zft mtl X d 239 [.int 1, .int 5, .ref 1100] (SHF, g) ((fun r : Int32 => ((some (.int r), (SHF, g)) : Out)) r) := by
  obtain ⟨d, rfl⟩ : ∃ d0, d = d0 + 1 := ⟨d - 1, by omega⟩
  have hd : 0 ≤ d := by omega
  refine E_in (f := (fun r : Int32 => ((some (.int r), (SHF, g)) : Out))) rfl (Nat.le_of_ble_eq_true rfl) ?_
  unfold jP_checkIndex_k1_5_c1
  change Lt X d (some .int) k_239 _ 0 [some (.int 1), some (.int 5), some (.ref 1100)] [] g _
  refine L_s (pc' := 1) rfl rfl ?_
  refine L_bf (c := (1 : Int32) < 0) (t := 9) (n := 4) rfl rfl (by decide) ?_
  refine L_s (pc' := 5) rfl rfl ?_
  refine L_s (pc' := 6) rfl rfl ?_
  refine L_bt (c := (1 : Int32) < 5) (t := 16) (n := 9) rfl rfl (by decide) ?_
  refine L_s (pc' := 17) rfl rfl ?_
  exact L_ret rfl ret_i rfl
def jS_checkIndex_k1_5  (g : Sg) : Option (Unit) :=
  (some ())
theorem e_jS_checkIndex_k1_5 {X : Xx} {d : Nat} (hd : 2 ≤ d)  (g : Sg) : ∀ r, jS_checkIndex_k1_5  g = some r → EvM zft mtl X d 236 [.int 1, .int 5] (SHF, g) ((fun r : Unit => ((none, (SHF, g)) : Out)) r) := by
  obtain ⟨d, rfl⟩ : ∃ d0, d = d0 + 1 := ⟨d - 1, by omega⟩
  have hd : 1 ≤ d := by omega
  refine E_in (f := (fun r : Unit => ((none, (SHF, g)) : Out))) rfl (Nat.le_of_ble_eq_true rfl) ?_
  unfold jS_checkIndex_k1_5
  change Lt X d none k_236 _ 0 [some (.int 1), some (.int 5)] [] g _
  refine L_s (pc' := 1) rfl rfl ?_
  refine L_s (pc' := 2) rfl rfl ?_
  refine L_x3 (pc' := 5) rfl rfl (fun _ => ?_) (fun _ => ?_)
  · refine L_kc (pc' := 8) (as := [.int 1, .int 5, .null]) (rest := []) rfl rfl ((e_jP_checkIndex_k1_5 (by omega) _) (1) rfl) rfl ?_
    refine L_s (pc' := 9) rfl rfl ?_
    exact L_ret rfl rfl rfl
  · refine L_kc (pc' := 8) (as := [.int 1, .int 5, .ref 1100]) (rest := []) rfl rfl ((e_jP_checkIndex_k1_5_c1 (by omega) _) (1) rfl) rfl ?_
    refine L_s (pc' := 9) rfl rfl ?_
    exact L_ret rfl rfl rfl
def jL_charAt_k1_c7  (g : Sg) : Option (Int32) :=
  (some 111)
theorem e_jL_charAt_k1_c7 {X : Xx} {d : Nat} (hd : 3 ≤ d)  (g : Sg) : ∀ r, jL_charAt_k1_c7  g = some r → EvM zft mtl X d 237 [.ref 1037, .int 1] (SHF, g) ((fun r : Int32 => ((some (.int r), (SHF, g)) : Out)) r) := by
  obtain ⟨d, rfl⟩ : ∃ d0, d = d0 + 1 := ⟨d - 1, by omega⟩
  have hd : 2 ≤ d := by omega
  refine E_in (f := (fun r : Int32 => ((some (.int r), (SHF, g)) : Out))) rfl (Nat.le_of_ble_eq_true rfl) ?_
  unfold jL_charAt_k1_c7
  change Lt X d (some .char) k_237 _ 0 [some (.ref 1037), some (.int 1)] [] g _
  refine L_s (pc' := 1) rfl rfl ?_
  refine L_s (pc' := 2) rfl rfl ?_
  refine L_s (pc' := 3) (st' := [.int 5, .int 1]) rfl rfl ?_
  refine L_ku (pc' := 6) (as := [.int 1, .int 5]) (rest := []) rfl rfl ((e_jS_checkIndex_k1_5 (by omega) _) () rfl) rfl ?_
  refine L_s (pc' := 7) rfl rfl ?_
  refine L_s (pc' := 8) rfl rfl ?_
  refine L_xBk (pc' := 9) rfl (rfl : xsh X 1037 = _) (by decide) (by decide) (rfl : _ = (111 : Int32)) rfl ?_
  refine L_si (pc' := 12) rfl q3_255 rfl ?_
  refine L_s (pc' := 13) rfl rfl ?_
  refine L_e (b := 111) (by decide) ?_
  refine L_s (pc' := 14) rfl rfl ?_
  refine L_e (b := 111) (by decide) ?_
  exact L_ret rfl (by decide) rfl
def jS_charAt_k1_c7  (g : Sg) : Option (Int32) :=
  (some 111)
theorem e_jS_charAt_k1_c7 {X : Xx} {d : Nat} (hd : 4 ≤ d)  (g : Sg) : ∀ r, jS_charAt_k1_c7  g = some r → EvM zft mtl X d 233 [.ref 1017, .int 1] (SHF, g) ((fun r : Int32 => ((some (.int r), (SHF, g)) : Out)) r) := by
  obtain ⟨d, rfl⟩ : ∃ d0, d = d0 + 1 := ⟨d - 1, by omega⟩
  have hd : 3 ≤ d := by omega
  refine E_in (f := (fun r : Int32 => ((some (.int r), (SHF, g)) : Out))) rfl (Nat.le_of_ble_eq_true rfl) ?_
  unfold jS_charAt_k1_c7
  change Lt X d (some .char) k_233 _ 0 [some (.ref 1017), some (.int 1)] [] g _
  refine L_s (pc' := 1) rfl rfl ?_
  refine L_kc (pc' := 4) (as := [.ref 1017]) (rest := []) rfl rfl ((e_jS_isLatin1_c7 (by omega) _) (1) rfl) rfl ?_
  refine L_bf (c := (1 : Int32) = 0) (t := 16) (n := 7) rfl rfl (by decide) ?_
  refine L_s (pc' := 8) rfl rfl ?_
  refine L_s (pc' := 11) (st' := [.ref 1037]) rfl rfl ?_
  refine L_s (pc' := 12) rfl rfl ?_
  refine L_kc (pc' := 15) (as := [.ref 1037, .int 1]) (rest := []) rfl rfl ((e_jL_charAt_k1_c7 (by omega) _) (111) rfl) rfl ?_
  exact L_ret rfl (by decide) rfl
def jP_checkIndex_k2_5  (g : Sg) : Option (Int32) :=
  (some 2)
theorem e_jP_checkIndex_k2_5 {X : Xx} {d : Nat} (hd : 1 ≤ d)  (g : Sg) : ∀ r, jP_checkIndex_k2_5  g = some r → EvM zft mtl X d 239 [.int 2, .int 5, .null] (SHF, g) ((fun r : Int32 => ((some (.int r), (SHF, g)) : Out)) r) := by
  obtain ⟨d, rfl⟩ : ∃ d0, d = d0 + 1 := ⟨d - 1, by omega⟩
  have hd : 0 ≤ d := by omega
  refine E_in (f := (fun r : Int32 => ((some (.int r), (SHF, g)) : Out))) rfl (Nat.le_of_ble_eq_true rfl) ?_
  unfold jP_checkIndex_k2_5
  change Lt X d (some .int) k_239 _ 0 [some (.int 2), some (.int 5), some (.null)] [] g _
  refine L_s (pc' := 1) rfl rfl ?_
  refine L_bf (c := (2 : Int32) < 0) (t := 9) (n := 4) rfl rfl (by decide) ?_
  refine L_s (pc' := 5) rfl rfl ?_
  refine L_s (pc' := 6) rfl rfl ?_
  refine L_bt (c := (2 : Int32) < 5) (t := 16) (n := 9) rfl rfl (by decide) ?_
  refine L_s (pc' := 17) rfl rfl ?_
  exact L_ret rfl ret_i rfl
def jP_checkIndex_k2_5_c1  (g : Sg) : Option (Int32) :=
  (some 2)
theorem e_jP_checkIndex_k2_5_c1 {X : Xx} {d : Nat} (hd : 1 ≤ d)  (g : Sg) : ∀ r, jP_checkIndex_k2_5_c1  g = some r → EvM zft mtl X d 239 [.int 2, .int 5, .ref 1100] (SHF, g) ((fun r : Int32 => ((some (.int r), (SHF, g)) : Out)) r) := by
  obtain ⟨d, rfl⟩ : ∃ d0, d = d0 + 1 := ⟨d - 1, by omega⟩
  have hd : 0 ≤ d := by omega
  refine E_in (f := (fun r : Int32 => ((some (.int r), (SHF, g)) : Out))) rfl (Nat.le_of_ble_eq_true rfl) ?_
  unfold jP_checkIndex_k2_5_c1
  change Lt X d (some .int) k_239 _ 0 [some (.int 2), some (.int 5), some (.ref 1100)] [] g _
  refine L_s (pc' := 1) rfl rfl ?_
  refine L_bf (c := (2 : Int32) < 0) (t := 9) (n := 4) rfl rfl (by decide) ?_
  refine L_s (pc' := 5) rfl rfl ?_
  refine L_s (pc' := 6) rfl rfl ?_
  refine L_bt (c := (2 : Int32) < 5) (t := 16) (n := 9) rfl rfl (by decide) ?_
  refine L_s (pc' := 17) rfl rfl ?_
  exact L_ret rfl ret_i rfl
def jS_checkIndex_k2_5  (g : Sg) : Option (Unit) :=
  (some ())
theorem e_jS_checkIndex_k2_5 {X : Xx} {d : Nat} (hd : 2 ≤ d)  (g : Sg) : ∀ r, jS_checkIndex_k2_5  g = some r → EvM zft mtl X d 236 [.int 2, .int 5] (SHF, g) ((fun r : Unit => ((none, (SHF, g)) : Out)) r) := by
  obtain ⟨d, rfl⟩ : ∃ d0, d = d0 + 1 := ⟨d - 1, by omega⟩
  have hd : 1 ≤ d := by omega
  refine E_in (f := (fun r : Unit => ((none, (SHF, g)) : Out))) rfl (Nat.le_of_ble_eq_true rfl) ?_
  unfold jS_checkIndex_k2_5
  change Lt X d none k_236 _ 0 [some (.int 2), some (.int 5)] [] g _
  refine L_s (pc' := 1) rfl rfl ?_
  refine L_s (pc' := 2) rfl rfl ?_
  refine L_x3 (pc' := 5) rfl rfl (fun _ => ?_) (fun _ => ?_)
  · refine L_kc (pc' := 8) (as := [.int 2, .int 5, .null]) (rest := []) rfl rfl ((e_jP_checkIndex_k2_5 (by omega) _) (2) rfl) rfl ?_
    refine L_s (pc' := 9) rfl rfl ?_
    exact L_ret rfl rfl rfl
  · refine L_kc (pc' := 8) (as := [.int 2, .int 5, .ref 1100]) (rest := []) rfl rfl ((e_jP_checkIndex_k2_5_c1 (by omega) _) (2) rfl) rfl ?_
    refine L_s (pc' := 9) rfl rfl ?_
    exact L_ret rfl rfl rfl
def jL_charAt_k2_c6  (g : Sg) : Option (Int32) :=
  (some 117)
theorem e_jL_charAt_k2_c6 {X : Xx} {d : Nat} (hd : 3 ≤ d)  (g : Sg) : ∀ r, jL_charAt_k2_c6  g = some r → EvM zft mtl X d 237 [.ref 1037, .int 2] (SHF, g) ((fun r : Int32 => ((some (.int r), (SHF, g)) : Out)) r) := by
  obtain ⟨d, rfl⟩ : ∃ d0, d = d0 + 1 := ⟨d - 1, by omega⟩
  have hd : 2 ≤ d := by omega
  refine E_in (f := (fun r : Int32 => ((some (.int r), (SHF, g)) : Out))) rfl (Nat.le_of_ble_eq_true rfl) ?_
  unfold jL_charAt_k2_c6
  change Lt X d (some .char) k_237 _ 0 [some (.ref 1037), some (.int 2)] [] g _
  refine L_s (pc' := 1) rfl rfl ?_
  refine L_s (pc' := 2) rfl rfl ?_
  refine L_s (pc' := 3) (st' := [.int 5, .int 2]) rfl rfl ?_
  refine L_ku (pc' := 6) (as := [.int 2, .int 5]) (rest := []) rfl rfl ((e_jS_checkIndex_k2_5 (by omega) _) () rfl) rfl ?_
  refine L_s (pc' := 7) rfl rfl ?_
  refine L_s (pc' := 8) rfl rfl ?_
  refine L_xBk (pc' := 9) rfl (rfl : xsh X 1037 = _) (by decide) (by decide) (rfl : _ = (117 : Int32)) rfl ?_
  refine L_si (pc' := 12) rfl q3_255 rfl ?_
  refine L_s (pc' := 13) rfl rfl ?_
  refine L_e (b := 117) (by decide) ?_
  refine L_s (pc' := 14) rfl rfl ?_
  refine L_e (b := 117) (by decide) ?_
  exact L_ret rfl (by decide) rfl
def jS_charAt_k2_c6  (g : Sg) : Option (Int32) :=
  (some 117)
theorem e_jS_charAt_k2_c6 {X : Xx} {d : Nat} (hd : 4 ≤ d)  (g : Sg) : ∀ r, jS_charAt_k2_c6  g = some r → EvM zft mtl X d 233 [.ref 1017, .int 2] (SHF, g) ((fun r : Int32 => ((some (.int r), (SHF, g)) : Out)) r) := by
  obtain ⟨d, rfl⟩ : ∃ d0, d = d0 + 1 := ⟨d - 1, by omega⟩
  have hd : 3 ≤ d := by omega
  refine E_in (f := (fun r : Int32 => ((some (.int r), (SHF, g)) : Out))) rfl (Nat.le_of_ble_eq_true rfl) ?_
  unfold jS_charAt_k2_c6
  change Lt X d (some .char) k_233 _ 0 [some (.ref 1017), some (.int 2)] [] g _
  refine L_s (pc' := 1) rfl rfl ?_
  refine L_kc (pc' := 4) (as := [.ref 1017]) (rest := []) rfl rfl ((e_jS_isLatin1_c7 (by omega) _) (1) rfl) rfl ?_
  refine L_bf (c := (1 : Int32) = 0) (t := 16) (n := 7) rfl rfl (by decide) ?_
  refine L_s (pc' := 8) rfl rfl ?_
  refine L_s (pc' := 11) (st' := [.ref 1037]) rfl rfl ?_
  refine L_s (pc' := 12) rfl rfl ?_
  refine L_kc (pc' := 15) (as := [.ref 1037, .int 2]) (rest := []) rfl rfl ((e_jL_charAt_k2_c6 (by omega) _) (117) rfl) rfl ?_
  exact L_ret rfl (by decide) rfl
def jP_checkIndex_k3_5  (g : Sg) : Option (Int32) :=
  (some 3)
theorem e_jP_checkIndex_k3_5 {X : Xx} {d : Nat} (hd : 1 ≤ d)  (g : Sg) : ∀ r, jP_checkIndex_k3_5  g = some r → EvM zft mtl X d 239 [.int 3, .int 5, .null] (SHF, g) ((fun r : Int32 => ((some (.int r), (SHF, g)) : Out)) r) := by
  obtain ⟨d, rfl⟩ : ∃ d0, d = d0 + 1 := ⟨d - 1, by omega⟩
  have hd : 0 ≤ d := by omega
  refine E_in (f := (fun r : Int32 => ((some (.int r), (SHF, g)) : Out))) rfl (Nat.le_of_ble_eq_true rfl) ?_
  unfold jP_checkIndex_k3_5
  change Lt X d (some .int) k_239 _ 0 [some (.int 3), some (.int 5), some (.null)] [] g _
  refine L_s (pc' := 1) rfl rfl ?_
  refine L_bf (c := (3 : Int32) < 0) (t := 9) (n := 4) rfl rfl (by decide) ?_
  refine L_s (pc' := 5) rfl rfl ?_
  refine L_s (pc' := 6) rfl rfl ?_
  refine L_bt (c := (3 : Int32) < 5) (t := 16) (n := 9) rfl rfl (by decide) ?_
  refine L_s (pc' := 17) rfl rfl ?_
  exact L_ret rfl ret_i rfl
def jP_checkIndex_k3_5_c1  (g : Sg) : Option (Int32) :=
  (some 3)
theorem e_jP_checkIndex_k3_5_c1 {X : Xx} {d : Nat} (hd : 1 ≤ d)  (g : Sg) : ∀ r, jP_checkIndex_k3_5_c1  g = some r → EvM zft mtl X d 239 [.int 3, .int 5, .ref 1100] (SHF, g) ((fun r : Int32 => ((some (.int r), (SHF, g)) : Out)) r) := by
  obtain ⟨d, rfl⟩ : ∃ d0, d = d0 + 1 := ⟨d - 1, by omega⟩
  have hd : 0 ≤ d := by omega
  refine E_in (f := (fun r : Int32 => ((some (.int r), (SHF, g)) : Out))) rfl (Nat.le_of_ble_eq_true rfl) ?_
  unfold jP_checkIndex_k3_5_c1
  change Lt X d (some .int) k_239 _ 0 [some (.int 3), some (.int 5), some (.ref 1100)] [] g _
  refine L_s (pc' := 1) rfl rfl ?_
  refine L_bf (c := (3 : Int32) < 0) (t := 9) (n := 4) rfl rfl (by decide) ?_
  refine L_s (pc' := 5) rfl rfl ?_
  refine L_s (pc' := 6) rfl rfl ?_
  refine L_bt (c := (3 : Int32) < 5) (t := 16) (n := 9) rfl rfl (by decide) ?_
  refine L_s (pc' := 17) rfl rfl ?_
  exact L_ret rfl ret_i rfl
def jS_checkIndex_k3_5  (g : Sg) : Option (Unit) :=
  (some ())
theorem e_jS_checkIndex_k3_5 {X : Xx} {d : Nat} (hd : 2 ≤ d)  (g : Sg) : ∀ r, jS_checkIndex_k3_5  g = some r → EvM zft mtl X d 236 [.int 3, .int 5] (SHF, g) ((fun r : Unit => ((none, (SHF, g)) : Out)) r) := by
  obtain ⟨d, rfl⟩ : ∃ d0, d = d0 + 1 := ⟨d - 1, by omega⟩
  have hd : 1 ≤ d := by omega
  refine E_in (f := (fun r : Unit => ((none, (SHF, g)) : Out))) rfl (Nat.le_of_ble_eq_true rfl) ?_
  unfold jS_checkIndex_k3_5
  change Lt X d none k_236 _ 0 [some (.int 3), some (.int 5)] [] g _
  refine L_s (pc' := 1) rfl rfl ?_
  refine L_s (pc' := 2) rfl rfl ?_
  refine L_x3 (pc' := 5) rfl rfl (fun _ => ?_) (fun _ => ?_)
  · refine L_kc (pc' := 8) (as := [.int 3, .int 5, .null]) (rest := []) rfl rfl ((e_jP_checkIndex_k3_5 (by omega) _) (3) rfl) rfl ?_
    refine L_s (pc' := 9) rfl rfl ?_
    exact L_ret rfl rfl rfl
  · refine L_kc (pc' := 8) (as := [.int 3, .int 5, .ref 1100]) (rest := []) rfl rfl ((e_jP_checkIndex_k3_5_c1 (by omega) _) (3) rfl) rfl ?_
    refine L_s (pc' := 9) rfl rfl ?_
    exact L_ret rfl rfl rfl
def jL_charAt_k3_c2  (g : Sg) : Option (Int32) :=
  (some 114)
theorem e_jL_charAt_k3_c2 {X : Xx} {d : Nat} (hd : 3 ≤ d)  (g : Sg) : ∀ r, jL_charAt_k3_c2  g = some r → EvM zft mtl X d 237 [.ref 1037, .int 3] (SHF, g) ((fun r : Int32 => ((some (.int r), (SHF, g)) : Out)) r) := by
  obtain ⟨d, rfl⟩ : ∃ d0, d = d0 + 1 := ⟨d - 1, by omega⟩
  have hd : 2 ≤ d := by omega
  refine E_in (f := (fun r : Int32 => ((some (.int r), (SHF, g)) : Out))) rfl (Nat.le_of_ble_eq_true rfl) ?_
  unfold jL_charAt_k3_c2
  change Lt X d (some .char) k_237 _ 0 [some (.ref 1037), some (.int 3)] [] g _
  refine L_s (pc' := 1) rfl rfl ?_
  refine L_s (pc' := 2) rfl rfl ?_
  refine L_s (pc' := 3) (st' := [.int 5, .int 3]) rfl rfl ?_
  refine L_ku (pc' := 6) (as := [.int 3, .int 5]) (rest := []) rfl rfl ((e_jS_checkIndex_k3_5 (by omega) _) () rfl) rfl ?_
  refine L_s (pc' := 7) rfl rfl ?_
  refine L_s (pc' := 8) rfl rfl ?_
  refine L_xBk (pc' := 9) rfl (rfl : xsh X 1037 = _) (by decide) (by decide) (rfl : _ = (114 : Int32)) rfl ?_
  refine L_si (pc' := 12) rfl q3_255 rfl ?_
  refine L_s (pc' := 13) rfl rfl ?_
  refine L_e (b := 114) (by decide) ?_
  refine L_s (pc' := 14) rfl rfl ?_
  refine L_e (b := 114) (by decide) ?_
  exact L_ret rfl (by decide) rfl
def jS_charAt_k3_c2  (g : Sg) : Option (Int32) :=
  (some 114)
theorem e_jS_charAt_k3_c2 {X : Xx} {d : Nat} (hd : 4 ≤ d)  (g : Sg) : ∀ r, jS_charAt_k3_c2  g = some r → EvM zft mtl X d 233 [.ref 1017, .int 3] (SHF, g) ((fun r : Int32 => ((some (.int r), (SHF, g)) : Out)) r) := by
  obtain ⟨d, rfl⟩ : ∃ d0, d = d0 + 1 := ⟨d - 1, by omega⟩
  have hd : 3 ≤ d := by omega
  refine E_in (f := (fun r : Int32 => ((some (.int r), (SHF, g)) : Out))) rfl (Nat.le_of_ble_eq_true rfl) ?_
  unfold jS_charAt_k3_c2
  change Lt X d (some .char) k_233 _ 0 [some (.ref 1017), some (.int 3)] [] g _
  refine L_s (pc' := 1) rfl rfl ?_
  refine L_kc (pc' := 4) (as := [.ref 1017]) (rest := []) rfl rfl ((e_jS_isLatin1_c7 (by omega) _) (1) rfl) rfl ?_
  refine L_bf (c := (1 : Int32) = 0) (t := 16) (n := 7) rfl rfl (by decide) ?_
  refine L_s (pc' := 8) rfl rfl ?_
  refine L_s (pc' := 11) (st' := [.ref 1037]) rfl rfl ?_
  refine L_s (pc' := 12) rfl rfl ?_
  refine L_kc (pc' := 15) (as := [.ref 1037, .int 3]) (rest := []) rfl rfl ((e_jL_charAt_k3_c2 (by omega) _) (114) rfl) rfl ?_
  exact L_ret rfl (by decide) rfl
def jP_checkIndex_k4_5  (g : Sg) : Option (Int32) :=
  (some 4)
theorem e_jP_checkIndex_k4_5 {X : Xx} {d : Nat} (hd : 1 ≤ d)  (g : Sg) : ∀ r, jP_checkIndex_k4_5  g = some r → EvM zft mtl X d 239 [.int 4, .int 5, .null] (SHF, g) ((fun r : Int32 => ((some (.int r), (SHF, g)) : Out)) r) := by
  obtain ⟨d, rfl⟩ : ∃ d0, d = d0 + 1 := ⟨d - 1, by omega⟩
  have hd : 0 ≤ d := by omega
  refine E_in (f := (fun r : Int32 => ((some (.int r), (SHF, g)) : Out))) rfl (Nat.le_of_ble_eq_true rfl) ?_
  unfold jP_checkIndex_k4_5
  change Lt X d (some .int) k_239 _ 0 [some (.int 4), some (.int 5), some (.null)] [] g _
  refine L_s (pc' := 1) rfl rfl ?_
  refine L_bf (c := (4 : Int32) < 0) (t := 9) (n := 4) rfl rfl (by decide) ?_
  refine L_s (pc' := 5) rfl rfl ?_
  refine L_s (pc' := 6) rfl rfl ?_
  refine L_bt (c := (4 : Int32) < 5) (t := 16) (n := 9) rfl rfl (by decide) ?_
  refine L_s (pc' := 17) rfl rfl ?_
  exact L_ret rfl ret_i rfl
def jP_checkIndex_k4_5_c1  (g : Sg) : Option (Int32) :=
  (some 4)
theorem e_jP_checkIndex_k4_5_c1 {X : Xx} {d : Nat} (hd : 1 ≤ d)  (g : Sg) : ∀ r, jP_checkIndex_k4_5_c1  g = some r → EvM zft mtl X d 239 [.int 4, .int 5, .ref 1100] (SHF, g) ((fun r : Int32 => ((some (.int r), (SHF, g)) : Out)) r) := by
  obtain ⟨d, rfl⟩ : ∃ d0, d = d0 + 1 := ⟨d - 1, by omega⟩
  have hd : 0 ≤ d := by omega
  refine E_in (f := (fun r : Int32 => ((some (.int r), (SHF, g)) : Out))) rfl (Nat.le_of_ble_eq_true rfl) ?_
  unfold jP_checkIndex_k4_5_c1
  change Lt X d (some .int) k_239 _ 0 [some (.int 4), some (.int 5), some (.ref 1100)] [] g _
  refine L_s (pc' := 1) rfl rfl ?_
  refine L_bf (c := (4 : Int32) < 0) (t := 9) (n := 4) rfl rfl (by decide) ?_
  refine L_s (pc' := 5) rfl rfl ?_
  refine L_s (pc' := 6) rfl rfl ?_
  refine L_bt (c := (4 : Int32) < 5) (t := 16) (n := 9) rfl rfl (by decide) ?_
  refine L_s (pc' := 17) rfl rfl ?_
  exact L_ret rfl ret_i rfl
def jS_checkIndex_k4_5  (g : Sg) : Option (Unit) :=
  (some ())
theorem e_jS_checkIndex_k4_5 {X : Xx} {d : Nat} (hd : 2 ≤ d)  (g : Sg) : ∀ r, jS_checkIndex_k4_5  g = some r → EvM zft mtl X d 236 [.int 4, .int 5] (SHF, g) ((fun r : Unit => ((none, (SHF, g)) : Out)) r) := by
  obtain ⟨d, rfl⟩ : ∃ d0, d = d0 + 1 := ⟨d - 1, by omega⟩
  have hd : 1 ≤ d := by omega
  refine E_in (f := (fun r : Unit => ((none, (SHF, g)) : Out))) rfl (Nat.le_of_ble_eq_true rfl) ?_
  unfold jS_checkIndex_k4_5
  change Lt X d none k_236 _ 0 [some (.int 4), some (.int 5)] [] g _
  refine L_s (pc' := 1) rfl rfl ?_
  refine L_s (pc' := 2) rfl rfl ?_
  refine L_x3 (pc' := 5) rfl rfl (fun _ => ?_) (fun _ => ?_)
  · refine L_kc (pc' := 8) (as := [.int 4, .int 5, .null]) (rest := []) rfl rfl ((e_jP_checkIndex_k4_5 (by omega) _) (4) rfl) rfl ?_
    refine L_s (pc' := 9) rfl rfl ?_
    exact L_ret rfl rfl rfl
  · refine L_kc (pc' := 8) (as := [.int 4, .int 5, .ref 1100]) (rest := []) rfl rfl ((e_jP_checkIndex_k4_5_c1 (by omega) _) (4) rfl) rfl ?_
    refine L_s (pc' := 9) rfl rfl ?_
    exact L_ret rfl rfl rfl
def jL_charAt_k4_c1  (g : Sg) : Option (Int32) :=
  (some 115)
theorem e_jL_charAt_k4_c1 {X : Xx} {d : Nat} (hd : 3 ≤ d)  (g : Sg) : ∀ r, jL_charAt_k4_c1  g = some r → EvM zft mtl X d 237 [.ref 1037, .int 4] (SHF, g) ((fun r : Int32 => ((some (.int r), (SHF, g)) : Out)) r) := by
  obtain ⟨d, rfl⟩ : ∃ d0, d = d0 + 1 := ⟨d - 1, by omega⟩
  have hd : 2 ≤ d := by omega
  refine E_in (f := (fun r : Int32 => ((some (.int r), (SHF, g)) : Out))) rfl (Nat.le_of_ble_eq_true rfl) ?_
  unfold jL_charAt_k4_c1
  change Lt X d (some .char) k_237 _ 0 [some (.ref 1037), some (.int 4)] [] g _
  refine L_s (pc' := 1) rfl rfl ?_
  refine L_s (pc' := 2) rfl rfl ?_
  refine L_s (pc' := 3) (st' := [.int 5, .int 4]) rfl rfl ?_
  refine L_ku (pc' := 6) (as := [.int 4, .int 5]) (rest := []) rfl rfl ((e_jS_checkIndex_k4_5 (by omega) _) () rfl) rfl ?_
  refine L_s (pc' := 7) rfl rfl ?_
  refine L_s (pc' := 8) rfl rfl ?_
  refine L_xBk (pc' := 9) rfl (rfl : xsh X 1037 = _) (by decide) (by decide) (rfl : _ = (115 : Int32)) rfl ?_
  refine L_si (pc' := 12) rfl q3_255 rfl ?_
  refine L_s (pc' := 13) rfl rfl ?_
  refine L_e (b := 115) (by decide) ?_
  refine L_s (pc' := 14) rfl rfl ?_
  refine L_e (b := 115) (by decide) ?_
  exact L_ret rfl (by decide) rfl
def jS_charAt_k4_c1  (g : Sg) : Option (Int32) :=
  (some 115)
theorem e_jS_charAt_k4_c1 {X : Xx} {d : Nat} (hd : 4 ≤ d)  (g : Sg) : ∀ r, jS_charAt_k4_c1  g = some r → EvM zft mtl X d 233 [.ref 1017, .int 4] (SHF, g) ((fun r : Int32 => ((some (.int r), (SHF, g)) : Out)) r) := by
  obtain ⟨d, rfl⟩ : ∃ d0, d = d0 + 1 := ⟨d - 1, by omega⟩
  have hd : 3 ≤ d := by omega
  refine E_in (f := (fun r : Int32 => ((some (.int r), (SHF, g)) : Out))) rfl (Nat.le_of_ble_eq_true rfl) ?_
  unfold jS_charAt_k4_c1
  change Lt X d (some .char) k_233 _ 0 [some (.ref 1017), some (.int 4)] [] g _
  refine L_s (pc' := 1) rfl rfl ?_
  refine L_kc (pc' := 4) (as := [.ref 1017]) (rest := []) rfl rfl ((e_jS_isLatin1_c7 (by omega) _) (1) rfl) rfl ?_
  refine L_bf (c := (1 : Int32) = 0) (t := 16) (n := 7) rfl rfl (by decide) ?_
  refine L_s (pc' := 8) rfl rfl ?_
  refine L_s (pc' := 11) (st' := [.ref 1037]) rfl rfl ?_
  refine L_s (pc' := 12) rfl rfl ?_
  refine L_kc (pc' := 15) (as := [.ref 1037, .int 4]) (rest := []) rfl rfl ((e_jL_charAt_k4_c1 (by omega) _) (115) rfl) rfl ?_
  exact L_ret rfl (by decide) rfl
def tokens_isWord_c7 (v1 : Int32) (v2 : Int32) (g : Sg) : Option (Int32) :=
  (if ¬ (v2 - v1) = 5 then
    (some 0)
  else
    (if v1 < 0 then
      (some 0)
    else
      (if v2 ≤ 500 then
        (if inb (v1 + 0) 500 = true then (if (g 32 (Int32.toNatClampNeg (v1 + 0))) = 104 then
          (if inb (v1 + 1) 500 = true then (if (g 32 (Int32.toNatClampNeg (v1 + 1))) = 111 then
            (if inb (v1 + 2) 500 = true then (if (g 32 (Int32.toNatClampNeg (v1 + 2))) = 117 then
              (if inb (v1 + 3) 500 = true then (if (g 32 (Int32.toNatClampNeg (v1 + 3))) = 114 then
                (if inb (v1 + 4) 500 = true then (if (g 32 (Int32.toNatClampNeg (v1 + 4))) = 115 then
                  (some 1)
                else
                  (some 0)) else none)
              else
                (some 0)) else none)
            else
              (some 0)) else none)
          else
            (some 0)) else none)
        else
          (some 0)) else none)
      else
        (some 0))))
theorem e_tokens_isWord_c7 {X : Xx} {d : Nat} (hd : 5 ≤ d) (v1 : Int32) (v2 : Int32) (g : Sg) : ∀ r, tokens_isWord_c7 v1 v2 g = some r → EvM zft mtl X d 86 [.ref 32, .int v1, .int v2, .ref 1017] (SHF, g) ((fun r : Int32 => ((some (.int r), (SHF, g)) : Out)) r) := by
  obtain ⟨d, rfl⟩ : ∃ d0, d = d0 + 1 := ⟨d - 1, by omega⟩
  have hd : 4 ≤ d := by omega
  refine E_in (f := (fun r : Int32 => ((some (.int r), (SHF, g)) : Out))) rfl (Nat.le_of_ble_eq_true rfl) ?_
  unfold tokens_isWord_c7
  change Lt X d (some .boolean) k_86 _ 0 [some (.ref 32), some (.int v1), some (.int v2), some (.ref 1017), none] [] g _
  refine L_s (pc' := 1) rfl rfl ?_
  refine L_s (pc' := 2) rfl rfl ?_
  refine L_s (pc' := 3) rfl rfl ?_
  refine L_s (pc' := 4) rfl rfl ?_
  refine L_kc (pc' := 7) (as := [.ref 1017]) (rest := [.int (v2 - v1)]) rfl rfl ((e_jS_length_c7 (by omega) _) (5) rfl) rfl ?_
  refine L_br (t := 20) (n := 10) rfl rfl (fun _ => ?_) (fun _ => ?_)
  · refine L_ic (pc' := 21) rfl q1_0 rfl ?_
    exact L_ret rfl (ret_z (by decide)) rfl
  · refine L_s (pc' := 11) rfl rfl ?_
    refine L_br (t := 20) (n := 14) rfl rfl (fun _ => ?_) (fun _ => ?_)
    · refine L_ic (pc' := 21) rfl q1_0 rfl ?_
      exact L_ret rfl (ret_z (by decide)) rfl
    · refine L_s (pc' := 15) rfl rfl ?_
      refine L_s (pc' := 16) rfl rfl ?_
      refine L_s (pc' := 17) (st' := [.int 500, .int v2]) rfl rfl ?_
      refine L_br (t := 22) (n := 20) rfl rfl (fun _ => ?_) (fun _ => ?_)
      · refine L_ic (pc' := 23) rfl q1_0 rfl ?_
        refine L_s (pc' := 25) (L' := [some (.ref 32), some (.int v1), some (.int v2), some (.ref 1017), some (.int 0)]) rfl rfl ?_
        refine L_s (pc' := 27) rfl rfl ?_
        refine L_s (pc' := 28) rfl rfl ?_
        refine L_kc (pc' := 31) (as := [.ref 1017]) (rest := [.int 0]) rfl rfl ((e_jS_length_c7 (by omega) _) (5) rfl) rfl ?_
        refine L_bf (c := (5 : Int32) ≤ 0) (t := 57) (n := 34) rfl rfl (by decide) ?_
        refine L_s (pc' := 35) rfl rfl ?_
        refine L_s (pc' := 36) rfl rfl ?_
        refine L_s (pc' := 38) rfl rfl ?_
        refine L_s (pc' := 39) rfl rfl ?_
        refine L_rB (pc' := 40) rfl sh_32 (by decide) (by decide) rfl ?_
        refine L_s (pc' := 41) rfl rfl ?_
        refine L_s (pc' := 43) rfl rfl ?_
        refine L_kc (pc' := 46) (as := [.ref 1017, .int 0]) (rest := [.int (g 32 (Int32.toNatClampNeg (v1 + 0)))]) rfl rfl ((e_jS_charAt_k0_c7 (by omega) _) (104) rfl) rfl ?_
        refine L_br (t := 51) (n := 49) rfl rfl (fun _ => ?_) (fun _ => ?_)
        · refine L_ii (pc' := 54) (L' := [some (.ref 32), some (.int v1), some (.int v2), some (.ref 1017), some (.int 1)]) rfl rfl q1_1 (by decide : (0 : Int32) + 1 = 1) rfl rfl ?_
          refine L_s (pc' := 25) rfl rfl ?_
          refine L_s (pc' := 27) rfl rfl ?_
          refine L_s (pc' := 28) rfl rfl ?_
          refine L_kc (pc' := 31) (as := [.ref 1017]) (rest := [.int 1]) rfl rfl ((e_jS_length_c7 (by omega) _) (5) rfl) rfl ?_
          refine L_bf (c := (5 : Int32) ≤ 1) (t := 57) (n := 34) rfl rfl (by decide) ?_
          refine L_s (pc' := 35) rfl rfl ?_
          refine L_s (pc' := 36) rfl rfl ?_
          refine L_s (pc' := 38) rfl rfl ?_
          refine L_s (pc' := 39) rfl rfl ?_
          refine L_rB (pc' := 40) rfl sh_32 (by decide) (by decide) rfl ?_
          refine L_s (pc' := 41) rfl rfl ?_
          refine L_s (pc' := 43) rfl rfl ?_
          refine L_kc (pc' := 46) (as := [.ref 1017, .int 1]) (rest := [.int (g 32 (Int32.toNatClampNeg (v1 + 1)))]) rfl rfl ((e_jS_charAt_k1_c7 (by omega) _) (111) rfl) rfl ?_
          refine L_br (t := 51) (n := 49) rfl rfl (fun _ => ?_) (fun _ => ?_)
          · refine L_ii (pc' := 54) (L' := [some (.ref 32), some (.int v1), some (.int v2), some (.ref 1017), some (.int 2)]) rfl rfl q1_1 (by decide : (1 : Int32) + 1 = 2) rfl rfl ?_
            refine L_s (pc' := 25) rfl rfl ?_
            refine L_s (pc' := 27) rfl rfl ?_
            refine L_s (pc' := 28) rfl rfl ?_
            refine L_kc (pc' := 31) (as := [.ref 1017]) (rest := [.int 2]) rfl rfl ((e_jS_length_c7 (by omega) _) (5) rfl) rfl ?_
            refine L_bf (c := (5 : Int32) ≤ 2) (t := 57) (n := 34) rfl rfl (by decide) ?_
            refine L_s (pc' := 35) rfl rfl ?_
            refine L_s (pc' := 36) rfl rfl ?_
            refine L_s (pc' := 38) rfl rfl ?_
            refine L_s (pc' := 39) rfl rfl ?_
            refine L_rB (pc' := 40) rfl sh_32 (by decide) (by decide) rfl ?_
            refine L_s (pc' := 41) rfl rfl ?_
            refine L_s (pc' := 43) rfl rfl ?_
            refine L_kc (pc' := 46) (as := [.ref 1017, .int 2]) (rest := [.int (g 32 (Int32.toNatClampNeg (v1 + 2)))]) rfl rfl ((e_jS_charAt_k2_c6 (by omega) _) (117) rfl) rfl ?_
            refine L_br (t := 51) (n := 49) rfl rfl (fun _ => ?_) (fun _ => ?_)
            · refine L_ii (pc' := 54) (L' := [some (.ref 32), some (.int v1), some (.int v2), some (.ref 1017), some (.int 3)]) rfl rfl q1_1 (by decide : (2 : Int32) + 1 = 3) rfl rfl ?_
              refine L_s (pc' := 25) rfl rfl ?_
              refine L_s (pc' := 27) rfl rfl ?_
              refine L_s (pc' := 28) rfl rfl ?_
              refine L_kc (pc' := 31) (as := [.ref 1017]) (rest := [.int 3]) rfl rfl ((e_jS_length_c7 (by omega) _) (5) rfl) rfl ?_
              refine L_bf (c := (5 : Int32) ≤ 3) (t := 57) (n := 34) rfl rfl (by decide) ?_
              refine L_s (pc' := 35) rfl rfl ?_
              refine L_s (pc' := 36) rfl rfl ?_
              refine L_s (pc' := 38) rfl rfl ?_
              refine L_s (pc' := 39) rfl rfl ?_
              refine L_rB (pc' := 40) rfl sh_32 (by decide) (by decide) rfl ?_
              refine L_s (pc' := 41) rfl rfl ?_
              refine L_s (pc' := 43) rfl rfl ?_
              refine L_kc (pc' := 46) (as := [.ref 1017, .int 3]) (rest := [.int (g 32 (Int32.toNatClampNeg (v1 + 3)))]) rfl rfl ((e_jS_charAt_k3_c2 (by omega) _) (114) rfl) rfl ?_
              refine L_br (t := 51) (n := 49) rfl rfl (fun _ => ?_) (fun _ => ?_)
              · refine L_ii (pc' := 54) (L' := [some (.ref 32), some (.int v1), some (.int v2), some (.ref 1017), some (.int 4)]) rfl rfl q1_1 (by decide : (3 : Int32) + 1 = 4) rfl rfl ?_
                refine L_s (pc' := 25) rfl rfl ?_
                refine L_s (pc' := 27) rfl rfl ?_
                refine L_s (pc' := 28) rfl rfl ?_
                refine L_kc (pc' := 31) (as := [.ref 1017]) (rest := [.int 4]) rfl rfl ((e_jS_length_c7 (by omega) _) (5) rfl) rfl ?_
                refine L_bf (c := (5 : Int32) ≤ 4) (t := 57) (n := 34) rfl rfl (by decide) ?_
                refine L_s (pc' := 35) rfl rfl ?_
                refine L_s (pc' := 36) rfl rfl ?_
                refine L_s (pc' := 38) rfl rfl ?_
                refine L_s (pc' := 39) rfl rfl ?_
                refine L_rB (pc' := 40) rfl sh_32 (by decide) (by decide) rfl ?_
                refine L_s (pc' := 41) rfl rfl ?_
                refine L_s (pc' := 43) rfl rfl ?_
                refine L_kc (pc' := 46) (as := [.ref 1017, .int 4]) (rest := [.int (g 32 (Int32.toNatClampNeg (v1 + 4)))]) rfl rfl ((e_jS_charAt_k4_c1 (by omega) _) (115) rfl) rfl ?_
                refine L_br (t := 51) (n := 49) rfl rfl (fun _ => ?_) (fun _ => ?_)
                · refine L_ii (pc' := 54) (L' := [some (.ref 32), some (.int v1), some (.int v2), some (.ref 1017), some (.int 5)]) rfl rfl q1_1 (by decide : (4 : Int32) + 1 = 5) rfl rfl ?_
                  refine L_s (pc' := 25) rfl rfl ?_
                  refine L_s (pc' := 27) rfl rfl ?_
                  refine L_s (pc' := 28) rfl rfl ?_
                  refine L_kc (pc' := 31) (as := [.ref 1017]) (rest := [.int 5]) rfl rfl ((e_jS_length_c7 (by omega) _) (5) rfl) rfl ?_
                  refine L_bt (c := (5 : Int32) ≤ 5) (t := 57) (n := 34) rfl rfl (by decide) ?_
                  refine L_ic (pc' := 58) rfl q1_1 rfl ?_
                  exact L_ret rfl (ret_z (by decide)) rfl
                · refine L_ic (pc' := 50) rfl q1_0 rfl ?_
                  exact L_ret rfl (ret_z (by decide)) rfl
              · refine L_ic (pc' := 50) rfl q1_0 rfl ?_
                exact L_ret rfl (ret_z (by decide)) rfl
            · refine L_ic (pc' := 50) rfl q1_0 rfl ?_
              exact L_ret rfl (ret_z (by decide)) rfl
          · refine L_ic (pc' := 50) rfl q1_0 rfl ?_
            exact L_ret rfl (ret_z (by decide)) rfl
        · refine L_ic (pc' := 50) rfl q1_0 rfl ?_
          exact L_ret rfl (ret_z (by decide)) rfl
      · refine L_ic (pc' := 21) rfl q1_0 rfl ?_
        exact L_ret rfl (ret_z (by decide)) rfl
