/-! printed by wip/whole/decomp.py -/
def tokens_textOf_k9  (g : Sg) : Option (Nat) :=
  (some 1018)
theorem e_tokens_textOf_k9 {X : Xx} {d : Nat} (hd : 1 ≤ d)  (g : Sg) : ∀ r, tokens_textOf_k9  g = some r → EvM zft mtl X d 85 [.int 9] (SHF, g) ((fun r : Nat => ((some (.ref r), (SHF, g)) : Out)) r) := by
  obtain ⟨d, rfl⟩ : ∃ d0, d = d0 + 1 := ⟨d - 1, by omega⟩
  have hd : 0 ≤ d := by omega
  refine E_in (f := (fun r : Nat => ((some (.ref r), (SHF, g)) : Out))) rfl (Nat.le_of_ble_eq_true rfl) ?_
  unfold tokens_textOf_k9
  change Lt X d (some (.object "java/lang/String")) k_85 _ 0 [some (.int 9)] [] g _
  refine L_s (pc' := 1) rfl rfl ?_
  refine L_ts (t := 84) (off := 83) rfl (by decide) rfl ?_
  refine L_s (pc' := 86) rfl rfl ?_
  exact L_ret rfl rfl rfl
def jS_coder_c8  (g : Sg) : Option (Int32) :=
  (some 0)
theorem e_jS_coder_c8 {X : Xx} {d : Nat} (hd : 1 ≤ d)  (g : Sg) : ∀ r, jS_coder_c8  g = some r → EvM zft mtl X d 234 [.ref 1018] (SHF, g) ((fun r : Int32 => ((some (.int r), (SHF, g)) : Out)) r) := by
  obtain ⟨d, rfl⟩ : ∃ d0, d = d0 + 1 := ⟨d - 1, by omega⟩
  have hd : 0 ≤ d := by omega
  refine E_in (f := (fun r : Int32 => ((some (.int r), (SHF, g)) : Out))) rfl (Nat.le_of_ble_eq_true rfl) ?_
  unfold jS_coder_c8
  change Lt X d (some .byte) k_234 _ 0 [some (.ref 1018)] [] g _
  refine L_s (pc' := 3) rfl rfl ?_
  refine L_bf (c := (1 : Int32) = 0) (t := 13) (n := 6) rfl rfl (by decide) ?_
  refine L_s (pc' := 7) rfl rfl ?_
  refine L_s (pc' := 10) (st' := [.int 0]) rfl rfl ?_
  refine L_s (pc' := 14) rfl rfl ?_
  exact L_ret rfl (by decide) rfl
def jS_length_c8  (g : Sg) : Option (Int32) :=
  (some 5)
theorem e_jS_length_c8 {X : Xx} {d : Nat} (hd : 2 ≤ d)  (g : Sg) : ∀ r, jS_length_c8  g = some r → EvM zft mtl X d 232 [.ref 1018] (SHF, g) ((fun r : Int32 => ((some (.int r), (SHF, g)) : Out)) r) := by
  obtain ⟨d, rfl⟩ : ∃ d0, d = d0 + 1 := ⟨d - 1, by omega⟩
  have hd : 1 ≤ d := by omega
  refine E_in (f := (fun r : Int32 => ((some (.int r), (SHF, g)) : Out))) rfl (Nat.le_of_ble_eq_true rfl) ?_
  unfold jS_length_c8
  change Lt X d (some .int) k_232 _ 0 [some (.ref 1018)] [] g _
  refine L_s (pc' := 1) rfl rfl ?_
  refine L_s (pc' := 4) (st' := [.ref 1038]) rfl rfl ?_
  refine L_s (pc' := 5) (st' := [.int 5]) rfl rfl ?_
  refine L_s (pc' := 6) rfl rfl ?_
  refine L_kc (pc' := 9) (as := [.ref 1018]) (rest := [.int 5]) rfl rfl ((e_jS_coder_c8 (by omega) _) (0) rfl) rfl ?_
  refine L_s (pc' := 10) rfl rfl ?_
  refine L_e (b := 5) (by decide) ?_
  exact L_ret rfl ret_i rfl
def jS_isLatin1_c8  (g : Sg) : Option (Int32) :=
  (some 1)
theorem e_jS_isLatin1_c8 {X : Xx} {d : Nat} (hd : 1 ≤ d)  (g : Sg) : ∀ r, jS_isLatin1_c8  g = some r → EvM zft mtl X d 235 [.ref 1018] (SHF, g) ((fun r : Int32 => ((some (.int r), (SHF, g)) : Out)) r) := by
  obtain ⟨d, rfl⟩ : ∃ d0, d = d0 + 1 := ⟨d - 1, by omega⟩
  have hd : 0 ≤ d := by omega
  refine E_in (f := (fun r : Int32 => ((some (.int r), (SHF, g)) : Out))) rfl (Nat.le_of_ble_eq_true rfl) ?_
  unfold jS_isLatin1_c8
  change Lt X d (some .boolean) k_235 _ 0 [some (.ref 1018)] [] g _
  refine L_s (pc' := 3) rfl rfl ?_
  refine L_bf (c := (1 : Int32) = 0) (t := 17) (n := 6) rfl rfl (by decide) ?_
  refine L_s (pc' := 7) rfl rfl ?_
  refine L_s (pc' := 10) (st' := [.int 0]) rfl rfl ?_
  refine L_bf (c := ¬ (0 : Int32) = 0) (t := 17) (n := 13) rfl rfl (by decide) ?_
  refine L_ic (pc' := 14) rfl q1_1 rfl ?_
  refine L_s (pc' := 18) rfl rfl ?_
  exact L_ret rfl (ret_z (by decide)) rfl
def jL_charAt_k0_c8  (g : Sg) : Option (Int32) :=
  (some 110)
theorem e_jL_charAt_k0_c8 {X : Xx} {d : Nat} (hd : 3 ≤ d)  (g : Sg) : ∀ r, jL_charAt_k0_c8  g = some r → EvM zft mtl X d 237 [.ref 1038, .int 0] (SHF, g) ((fun r : Int32 => ((some (.int r), (SHF, g)) : Out)) r) := by
  obtain ⟨d, rfl⟩ : ∃ d0, d = d0 + 1 := ⟨d - 1, by omega⟩
  have hd : 2 ≤ d := by omega
  refine E_in (f := (fun r : Int32 => ((some (.int r), (SHF, g)) : Out))) rfl (Nat.le_of_ble_eq_true rfl) ?_
  unfold jL_charAt_k0_c8
  change Lt X d (some .char) k_237 _ 0 [some (.ref 1038), some (.int 0)] [] g _
  refine L_s (pc' := 1) rfl rfl ?_
  refine L_s (pc' := 2) rfl rfl ?_
  refine L_s (pc' := 3) (st' := [.int 5, .int 0]) rfl rfl ?_
  refine L_ku (pc' := 6) (as := [.int 0, .int 5]) (rest := []) rfl rfl ((e_jS_checkIndex_k0_5 (by omega) _) () rfl) rfl ?_
  refine L_s (pc' := 7) rfl rfl ?_
  refine L_s (pc' := 8) rfl rfl ?_
  refine L_xBk (pc' := 9) rfl (rfl : xsh X 1038 = _) (by decide) (by decide) (rfl : _ = (110 : Int32)) rfl ?_
  refine L_si (pc' := 12) rfl q3_255 rfl ?_
  refine L_s (pc' := 13) rfl rfl ?_
  refine L_e (b := 110) (by decide) ?_
  refine L_s (pc' := 14) rfl rfl ?_
  refine L_e (b := 110) (by decide) ?_
  exact L_ret rfl (by decide) rfl
def jS_charAt_k0_c8  (g : Sg) : Option (Int32) :=
  (some 110)
theorem e_jS_charAt_k0_c8 {X : Xx} {d : Nat} (hd : 4 ≤ d)  (g : Sg) : ∀ r, jS_charAt_k0_c8  g = some r → EvM zft mtl X d 233 [.ref 1018, .int 0] (SHF, g) ((fun r : Int32 => ((some (.int r), (SHF, g)) : Out)) r) := by
  obtain ⟨d, rfl⟩ : ∃ d0, d = d0 + 1 := ⟨d - 1, by omega⟩
  have hd : 3 ≤ d := by omega
  refine E_in (f := (fun r : Int32 => ((some (.int r), (SHF, g)) : Out))) rfl (Nat.le_of_ble_eq_true rfl) ?_
  unfold jS_charAt_k0_c8
  change Lt X d (some .char) k_233 _ 0 [some (.ref 1018), some (.int 0)] [] g _
  refine L_s (pc' := 1) rfl rfl ?_
  refine L_kc (pc' := 4) (as := [.ref 1018]) (rest := []) rfl rfl ((e_jS_isLatin1_c8 (by omega) _) (1) rfl) rfl ?_
  refine L_bf (c := (1 : Int32) = 0) (t := 16) (n := 7) rfl rfl (by decide) ?_
  refine L_s (pc' := 8) rfl rfl ?_
  refine L_s (pc' := 11) (st' := [.ref 1038]) rfl rfl ?_
  refine L_s (pc' := 12) rfl rfl ?_
  refine L_kc (pc' := 15) (as := [.ref 1038, .int 0]) (rest := []) rfl rfl ((e_jL_charAt_k0_c8 (by omega) _) (110) rfl) rfl ?_
  exact L_ret rfl (by decide) rfl
def jL_charAt_k1_c8  (g : Sg) : Option (Int32) :=
  (some 105)
theorem e_jL_charAt_k1_c8 {X : Xx} {d : Nat} (hd : 3 ≤ d)  (g : Sg) : ∀ r, jL_charAt_k1_c8  g = some r → EvM zft mtl X d 237 [.ref 1038, .int 1] (SHF, g) ((fun r : Int32 => ((some (.int r), (SHF, g)) : Out)) r) := by
  obtain ⟨d, rfl⟩ : ∃ d0, d = d0 + 1 := ⟨d - 1, by omega⟩
  have hd : 2 ≤ d := by omega
  refine E_in (f := (fun r : Int32 => ((some (.int r), (SHF, g)) : Out))) rfl (Nat.le_of_ble_eq_true rfl) ?_
  unfold jL_charAt_k1_c8
  change Lt X d (some .char) k_237 _ 0 [some (.ref 1038), some (.int 1)] [] g _
  refine L_s (pc' := 1) rfl rfl ?_
  refine L_s (pc' := 2) rfl rfl ?_
  refine L_s (pc' := 3) (st' := [.int 5, .int 1]) rfl rfl ?_
  refine L_ku (pc' := 6) (as := [.int 1, .int 5]) (rest := []) rfl rfl ((e_jS_checkIndex_k1_5 (by omega) _) () rfl) rfl ?_
  refine L_s (pc' := 7) rfl rfl ?_
  refine L_s (pc' := 8) rfl rfl ?_
  refine L_xBk (pc' := 9) rfl (rfl : xsh X 1038 = _) (by decide) (by decide) (rfl : _ = (105 : Int32)) rfl ?_
  refine L_si (pc' := 12) rfl q3_255 rfl ?_
  refine L_s (pc' := 13) rfl rfl ?_
  refine L_e (b := 105) (by decide) ?_
  refine L_s (pc' := 14) rfl rfl ?_
  refine L_e (b := 105) (by decide) ?_
  exact L_ret rfl (by decide) rfl
def jS_charAt_k1_c8  (g : Sg) : Option (Int32) :=
  (some 105)
theorem e_jS_charAt_k1_c8 {X : Xx} {d : Nat} (hd : 4 ≤ d)  (g : Sg) : ∀ r, jS_charAt_k1_c8  g = some r → EvM zft mtl X d 233 [.ref 1018, .int 1] (SHF, g) ((fun r : Int32 => ((some (.int r), (SHF, g)) : Out)) r) := by
  obtain ⟨d, rfl⟩ : ∃ d0, d = d0 + 1 := ⟨d - 1, by omega⟩
  have hd : 3 ≤ d := by omega
  refine E_in (f := (fun r : Int32 => ((some (.int r), (SHF, g)) : Out))) rfl (Nat.le_of_ble_eq_true rfl) ?_
  unfold jS_charAt_k1_c8
  change Lt X d (some .char) k_233 _ 0 [some (.ref 1018), some (.int 1)] [] g _
  refine L_s (pc' := 1) rfl rfl ?_
  refine L_kc (pc' := 4) (as := [.ref 1018]) (rest := []) rfl rfl ((e_jS_isLatin1_c8 (by omega) _) (1) rfl) rfl ?_
  refine L_bf (c := (1 : Int32) = 0) (t := 16) (n := 7) rfl rfl (by decide) ?_
  refine L_s (pc' := 8) rfl rfl ?_
  refine L_s (pc' := 11) (st' := [.ref 1038]) rfl rfl ?_
  refine L_s (pc' := 12) rfl rfl ?_
  refine L_kc (pc' := 15) (as := [.ref 1038, .int 1]) (rest := []) rfl rfl ((e_jL_charAt_k1_c8 (by omega) _) (105) rfl) rfl ?_
  exact L_ret rfl (by decide) rfl
def jL_charAt_k2_c7  (g : Sg) : Option (Int32) :=
  (some 103)
theorem e_jL_charAt_k2_c7 {X : Xx} {d : Nat} (hd : 3 ≤ d)  (g : Sg) : ∀ r, jL_charAt_k2_c7  g = some r → EvM zft mtl X d 237 [.ref 1038, .int 2] (SHF, g) ((fun r : Int32 => ((some (.int r), (SHF, g)) : Out)) r) := by
  obtain ⟨d, rfl⟩ : ∃ d0, d = d0 + 1 := ⟨d - 1, by omega⟩
  have hd : 2 ≤ d := by omega
  refine E_in (f := (fun r : Int32 => ((some (.int r), (SHF, g)) : Out))) rfl (Nat.le_of_ble_eq_true rfl) ?_
  unfold jL_charAt_k2_c7
  change Lt X d (some .char) k_237 _ 0 [some (.ref 1038), some (.int 2)] [] g _
  refine L_s (pc' := 1) rfl rfl ?_
  refine L_s (pc' := 2) rfl rfl ?_
  refine L_s (pc' := 3) (st' := [.int 5, .int 2]) rfl rfl ?_
  refine L_ku (pc' := 6) (as := [.int 2, .int 5]) (rest := []) rfl rfl ((e_jS_checkIndex_k2_5 (by omega) _) () rfl) rfl ?_
  refine L_s (pc' := 7) rfl rfl ?_
  refine L_s (pc' := 8) rfl rfl ?_
  refine L_xBk (pc' := 9) rfl (rfl : xsh X 1038 = _) (by decide) (by decide) (rfl : _ = (103 : Int32)) rfl ?_
  refine L_si (pc' := 12) rfl q3_255 rfl ?_
  refine L_s (pc' := 13) rfl rfl ?_
  refine L_e (b := 103) (by decide) ?_
  refine L_s (pc' := 14) rfl rfl ?_
  refine L_e (b := 103) (by decide) ?_
  exact L_ret rfl (by decide) rfl
def jS_charAt_k2_c7  (g : Sg) : Option (Int32) :=
  (some 103)
theorem e_jS_charAt_k2_c7 {X : Xx} {d : Nat} (hd : 4 ≤ d)  (g : Sg) : ∀ r, jS_charAt_k2_c7  g = some r → EvM zft mtl X d 233 [.ref 1018, .int 2] (SHF, g) ((fun r : Int32 => ((some (.int r), (SHF, g)) : Out)) r) := by
  obtain ⟨d, rfl⟩ : ∃ d0, d = d0 + 1 := ⟨d - 1, by omega⟩
  have hd : 3 ≤ d := by omega
  refine E_in (f := (fun r : Int32 => ((some (.int r), (SHF, g)) : Out))) rfl (Nat.le_of_ble_eq_true rfl) ?_
  unfold jS_charAt_k2_c7
  change Lt X d (some .char) k_233 _ 0 [some (.ref 1018), some (.int 2)] [] g _
  refine L_s (pc' := 1) rfl rfl ?_
  refine L_kc (pc' := 4) (as := [.ref 1018]) (rest := []) rfl rfl ((e_jS_isLatin1_c8 (by omega) _) (1) rfl) rfl ?_
  refine L_bf (c := (1 : Int32) = 0) (t := 16) (n := 7) rfl rfl (by decide) ?_
  refine L_s (pc' := 8) rfl rfl ?_
  refine L_s (pc' := 11) (st' := [.ref 1038]) rfl rfl ?_
  refine L_s (pc' := 12) rfl rfl ?_
  refine L_kc (pc' := 15) (as := [.ref 1038, .int 2]) (rest := []) rfl rfl ((e_jL_charAt_k2_c7 (by omega) _) (103) rfl) rfl ?_
  exact L_ret rfl (by decide) rfl
def jL_charAt_k3_c3  (g : Sg) : Option (Int32) :=
  (some 104)
theorem e_jL_charAt_k3_c3 {X : Xx} {d : Nat} (hd : 3 ≤ d)  (g : Sg) : ∀ r, jL_charAt_k3_c3  g = some r → EvM zft mtl X d 237 [.ref 1038, .int 3] (SHF, g) ((fun r : Int32 => ((some (.int r), (SHF, g)) : Out)) r) := by
  obtain ⟨d, rfl⟩ : ∃ d0, d = d0 + 1 := ⟨d - 1, by omega⟩
  have hd : 2 ≤ d := by omega
  refine E_in (f := (fun r : Int32 => ((some (.int r), (SHF, g)) : Out))) rfl (Nat.le_of_ble_eq_true rfl) ?_
  unfold jL_charAt_k3_c3
  change Lt X d (some .char) k_237 _ 0 [some (.ref 1038), some (.int 3)] [] g _
  refine L_s (pc' := 1) rfl rfl ?_
  refine L_s (pc' := 2) rfl rfl ?_
  refine L_s (pc' := 3) (st' := [.int 5, .int 3]) rfl rfl ?_
  refine L_ku (pc' := 6) (as := [.int 3, .int 5]) (rest := []) rfl rfl ((e_jS_checkIndex_k3_5 (by omega) _) () rfl) rfl ?_
  refine L_s (pc' := 7) rfl rfl ?_
  refine L_s (pc' := 8) rfl rfl ?_
  refine L_xBk (pc' := 9) rfl (rfl : xsh X 1038 = _) (by decide) (by decide) (rfl : _ = (104 : Int32)) rfl ?_
  refine L_si (pc' := 12) rfl q3_255 rfl ?_
  refine L_s (pc' := 13) rfl rfl ?_
  refine L_e (b := 104) (by decide) ?_
  refine L_s (pc' := 14) rfl rfl ?_
  refine L_e (b := 104) (by decide) ?_
  exact L_ret rfl (by decide) rfl
def jS_charAt_k3_c3  (g : Sg) : Option (Int32) :=
  (some 104)
theorem e_jS_charAt_k3_c3 {X : Xx} {d : Nat} (hd : 4 ≤ d)  (g : Sg) : ∀ r, jS_charAt_k3_c3  g = some r → EvM zft mtl X d 233 [.ref 1018, .int 3] (SHF, g) ((fun r : Int32 => ((some (.int r), (SHF, g)) : Out)) r) := by
  obtain ⟨d, rfl⟩ : ∃ d0, d = d0 + 1 := ⟨d - 1, by omega⟩
  have hd : 3 ≤ d := by omega
  refine E_in (f := (fun r : Int32 => ((some (.int r), (SHF, g)) : Out))) rfl (Nat.le_of_ble_eq_true rfl) ?_
  unfold jS_charAt_k3_c3
  change Lt X d (some .char) k_233 _ 0 [some (.ref 1018), some (.int 3)] [] g _
  refine L_s (pc' := 1) rfl rfl ?_
  refine L_kc (pc' := 4) (as := [.ref 1018]) (rest := []) rfl rfl ((e_jS_isLatin1_c8 (by omega) _) (1) rfl) rfl ?_
  refine L_bf (c := (1 : Int32) = 0) (t := 16) (n := 7) rfl rfl (by decide) ?_
  refine L_s (pc' := 8) rfl rfl ?_
  refine L_s (pc' := 11) (st' := [.ref 1038]) rfl rfl ?_
  refine L_s (pc' := 12) rfl rfl ?_
  refine L_kc (pc' := 15) (as := [.ref 1038, .int 3]) (rest := []) rfl rfl ((e_jL_charAt_k3_c3 (by omega) _) (104) rfl) rfl ?_
  exact L_ret rfl (by decide) rfl
def jL_charAt_k4_c2  (g : Sg) : Option (Int32) :=
  (some 116)
theorem e_jL_charAt_k4_c2 {X : Xx} {d : Nat} (hd : 3 ≤ d)  (g : Sg) : ∀ r, jL_charAt_k4_c2  g = some r → EvM zft mtl X d 237 [.ref 1038, .int 4] (SHF, g) ((fun r : Int32 => ((some (.int r), (SHF, g)) : Out)) r) := by
  obtain ⟨d, rfl⟩ : ∃ d0, d = d0 + 1 := ⟨d - 1, by omega⟩
  have hd : 2 ≤ d := by omega
  refine E_in (f := (fun r : Int32 => ((some (.int r), (SHF, g)) : Out))) rfl (Nat.le_of_ble_eq_true rfl) ?_
  unfold jL_charAt_k4_c2
  change Lt X d (some .char) k_237 _ 0 [some (.ref 1038), some (.int 4)] [] g _
  refine L_s (pc' := 1) rfl rfl ?_
  refine L_s (pc' := 2) rfl rfl ?_
  refine L_s (pc' := 3) (st' := [.int 5, .int 4]) rfl rfl ?_
  refine L_ku (pc' := 6) (as := [.int 4, .int 5]) (rest := []) rfl rfl ((e_jS_checkIndex_k4_5 (by omega) _) () rfl) rfl ?_
  refine L_s (pc' := 7) rfl rfl ?_
  refine L_s (pc' := 8) rfl rfl ?_
  refine L_xBk (pc' := 9) rfl (rfl : xsh X 1038 = _) (by decide) (by decide) (rfl : _ = (116 : Int32)) rfl ?_
  refine L_si (pc' := 12) rfl q3_255 rfl ?_
  refine L_s (pc' := 13) rfl rfl ?_
  refine L_e (b := 116) (by decide) ?_
  refine L_s (pc' := 14) rfl rfl ?_
  refine L_e (b := 116) (by decide) ?_
  exact L_ret rfl (by decide) rfl
def jS_charAt_k4_c2  (g : Sg) : Option (Int32) :=
  (some 116)
theorem e_jS_charAt_k4_c2 {X : Xx} {d : Nat} (hd : 4 ≤ d)  (g : Sg) : ∀ r, jS_charAt_k4_c2  g = some r → EvM zft mtl X d 233 [.ref 1018, .int 4] (SHF, g) ((fun r : Int32 => ((some (.int r), (SHF, g)) : Out)) r) := by
  obtain ⟨d, rfl⟩ : ∃ d0, d = d0 + 1 := ⟨d - 1, by omega⟩
  have hd : 3 ≤ d := by omega
  refine E_in (f := (fun r : Int32 => ((some (.int r), (SHF, g)) : Out))) rfl (Nat.le_of_ble_eq_true rfl) ?_
  unfold jS_charAt_k4_c2
  change Lt X d (some .char) k_233 _ 0 [some (.ref 1018), some (.int 4)] [] g _
  refine L_s (pc' := 1) rfl rfl ?_
  refine L_kc (pc' := 4) (as := [.ref 1018]) (rest := []) rfl rfl ((e_jS_isLatin1_c8 (by omega) _) (1) rfl) rfl ?_
  refine L_bf (c := (1 : Int32) = 0) (t := 16) (n := 7) rfl rfl (by decide) ?_
  refine L_s (pc' := 8) rfl rfl ?_
  refine L_s (pc' := 11) (st' := [.ref 1038]) rfl rfl ?_
  refine L_s (pc' := 12) rfl rfl ?_
  refine L_kc (pc' := 15) (as := [.ref 1038, .int 4]) (rest := []) rfl rfl ((e_jL_charAt_k4_c2 (by omega) _) (116) rfl) rfl ?_
  exact L_ret rfl (by decide) rfl
def tokens_isWord_c8 (v1 : Int32) (v2 : Int32) (g : Sg) : Option (Int32) :=
  (if ¬ (v2 - v1) = 5 then
    (some 0)
  else
    (if v1 < 0 then
      (some 0)
    else
      (if v2 ≤ 500 then
        (if inb (v1 + 0) 500 = true then (if (g 32 (Int32.toNatClampNeg (v1 + 0))) = 110 then
          (if inb (v1 + 1) 500 = true then (if (g 32 (Int32.toNatClampNeg (v1 + 1))) = 105 then
            (if inb (v1 + 2) 500 = true then (if (g 32 (Int32.toNatClampNeg (v1 + 2))) = 103 then
              (if inb (v1 + 3) 500 = true then (if (g 32 (Int32.toNatClampNeg (v1 + 3))) = 104 then
                (if inb (v1 + 4) 500 = true then (if (g 32 (Int32.toNatClampNeg (v1 + 4))) = 116 then
                  (some 1)
                else
                  (some 0)) else none)
              else
                (some 0)) else none)
            else
              (some 0)) else none)
          else
            (some 0)) else none)
        else
          (some 0)) else none)
      else
        (some 0))))
theorem e_tokens_isWord_c8 {X : Xx} {d : Nat} (hd : 5 ≤ d) (v1 : Int32) (v2 : Int32) (g : Sg) : ∀ r, tokens_isWord_c8 v1 v2 g = some r → EvM zft mtl X d 86 [.ref 32, .int v1, .int v2, .ref 1018] (SHF, g) ((fun r : Int32 => ((some (.int r), (SHF, g)) : Out)) r) := by
  obtain ⟨d, rfl⟩ : ∃ d0, d = d0 + 1 := ⟨d - 1, by omega⟩
  have hd : 4 ≤ d := by omega
  refine E_in (f := (fun r : Int32 => ((some (.int r), (SHF, g)) : Out))) rfl (Nat.le_of_ble_eq_true rfl) ?_
  unfold tokens_isWord_c8
  change Lt X d (some .boolean) k_86 _ 0 [some (.ref 32), some (.int v1), some (.int v2), some (.ref 1018), none] [] g _
  refine L_s (pc' := 1) rfl rfl ?_
  refine L_s (pc' := 2) rfl rfl ?_
  refine L_s (pc' := 3) rfl rfl ?_
  refine L_s (pc' := 4) rfl rfl ?_
  refine L_kc (pc' := 7) (as := [.ref 1018]) (rest := [.int (v2 - v1)]) rfl rfl ((e_jS_length_c8 (by omega) _) (5) rfl) rfl ?_
  refine L_br (t := 20) (n := 10) rfl rfl (fun _ => ?_) (fun _ => ?_)
  · refine L_ic (pc' := 21) rfl q1_0 rfl ?_
    exact L_ret rfl (ret_z (by decide)) rfl
  · refine L_s (pc' := 11) rfl rfl ?_
    refine L_br (t := 20) (n := 14) rfl rfl (fun _ => ?_) (fun _ => ?_)
    · refine L_ic (pc' := 21) rfl q1_0 rfl ?_
      exact L_ret rfl (ret_z (by decide)) rfl
    · refine L_s (pc' := 15) rfl rfl ?_
      refine L_s (pc' := 16) rfl rfl ?_
      refine L_s (pc' := 17) (st' := [.int 500, .int v2]) rfl rfl ?_
      refine L_br (t := 22) (n := 20) rfl rfl (fun _ => ?_) (fun _ => ?_)
      · refine L_ic (pc' := 23) rfl q1_0 rfl ?_
        refine L_s (pc' := 25) (L' := [some (.ref 32), some (.int v1), some (.int v2), some (.ref 1018), some (.int 0)]) rfl rfl ?_
        refine L_s (pc' := 27) rfl rfl ?_
        refine L_s (pc' := 28) rfl rfl ?_
        refine L_kc (pc' := 31) (as := [.ref 1018]) (rest := [.int 0]) rfl rfl ((e_jS_length_c8 (by omega) _) (5) rfl) rfl ?_
        refine L_bf (c := (5 : Int32) ≤ 0) (t := 57) (n := 34) rfl rfl (by decide) ?_
        refine L_s (pc' := 35) rfl rfl ?_
        refine L_s (pc' := 36) rfl rfl ?_
        refine L_s (pc' := 38) rfl rfl ?_
        refine L_s (pc' := 39) rfl rfl ?_
        refine L_rB (pc' := 40) rfl sh_32 (by decide) (by decide) rfl ?_
        refine L_s (pc' := 41) rfl rfl ?_
        refine L_s (pc' := 43) rfl rfl ?_
        refine L_kc (pc' := 46) (as := [.ref 1018, .int 0]) (rest := [.int (g 32 (Int32.toNatClampNeg (v1 + 0)))]) rfl rfl ((e_jS_charAt_k0_c8 (by omega) _) (110) rfl) rfl ?_
        refine L_br (t := 51) (n := 49) rfl rfl (fun _ => ?_) (fun _ => ?_)
        · refine L_ii (pc' := 54) (L' := [some (.ref 32), some (.int v1), some (.int v2), some (.ref 1018), some (.int 1)]) rfl rfl q1_1 (by decide : (0 : Int32) + 1 = 1) rfl rfl ?_
          refine L_s (pc' := 25) rfl rfl ?_
          refine L_s (pc' := 27) rfl rfl ?_
          refine L_s (pc' := 28) rfl rfl ?_
          refine L_kc (pc' := 31) (as := [.ref 1018]) (rest := [.int 1]) rfl rfl ((e_jS_length_c8 (by omega) _) (5) rfl) rfl ?_
          refine L_bf (c := (5 : Int32) ≤ 1) (t := 57) (n := 34) rfl rfl (by decide) ?_
          refine L_s (pc' := 35) rfl rfl ?_
          refine L_s (pc' := 36) rfl rfl ?_
          refine L_s (pc' := 38) rfl rfl ?_
          refine L_s (pc' := 39) rfl rfl ?_
          refine L_rB (pc' := 40) rfl sh_32 (by decide) (by decide) rfl ?_
          refine L_s (pc' := 41) rfl rfl ?_
          refine L_s (pc' := 43) rfl rfl ?_
          refine L_kc (pc' := 46) (as := [.ref 1018, .int 1]) (rest := [.int (g 32 (Int32.toNatClampNeg (v1 + 1)))]) rfl rfl ((e_jS_charAt_k1_c8 (by omega) _) (105) rfl) rfl ?_
          refine L_br (t := 51) (n := 49) rfl rfl (fun _ => ?_) (fun _ => ?_)
          · refine L_ii (pc' := 54) (L' := [some (.ref 32), some (.int v1), some (.int v2), some (.ref 1018), some (.int 2)]) rfl rfl q1_1 (by decide : (1 : Int32) + 1 = 2) rfl rfl ?_
            refine L_s (pc' := 25) rfl rfl ?_
            refine L_s (pc' := 27) rfl rfl ?_
            refine L_s (pc' := 28) rfl rfl ?_
            refine L_kc (pc' := 31) (as := [.ref 1018]) (rest := [.int 2]) rfl rfl ((e_jS_length_c8 (by omega) _) (5) rfl) rfl ?_
            refine L_bf (c := (5 : Int32) ≤ 2) (t := 57) (n := 34) rfl rfl (by decide) ?_
            refine L_s (pc' := 35) rfl rfl ?_
            refine L_s (pc' := 36) rfl rfl ?_
            refine L_s (pc' := 38) rfl rfl ?_
            refine L_s (pc' := 39) rfl rfl ?_
            refine L_rB (pc' := 40) rfl sh_32 (by decide) (by decide) rfl ?_
            refine L_s (pc' := 41) rfl rfl ?_
            refine L_s (pc' := 43) rfl rfl ?_
            refine L_kc (pc' := 46) (as := [.ref 1018, .int 2]) (rest := [.int (g 32 (Int32.toNatClampNeg (v1 + 2)))]) rfl rfl ((e_jS_charAt_k2_c7 (by omega) _) (103) rfl) rfl ?_
            refine L_br (t := 51) (n := 49) rfl rfl (fun _ => ?_) (fun _ => ?_)
            · refine L_ii (pc' := 54) (L' := [some (.ref 32), some (.int v1), some (.int v2), some (.ref 1018), some (.int 3)]) rfl rfl q1_1 (by decide : (2 : Int32) + 1 = 3) rfl rfl ?_
              refine L_s (pc' := 25) rfl rfl ?_
              refine L_s (pc' := 27) rfl rfl ?_
              refine L_s (pc' := 28) rfl rfl ?_
              refine L_kc (pc' := 31) (as := [.ref 1018]) (rest := [.int 3]) rfl rfl ((e_jS_length_c8 (by omega) _) (5) rfl) rfl ?_
              refine L_bf (c := (5 : Int32) ≤ 3) (t := 57) (n := 34) rfl rfl (by decide) ?_
              refine L_s (pc' := 35) rfl rfl ?_
              refine L_s (pc' := 36) rfl rfl ?_
              refine L_s (pc' := 38) rfl rfl ?_
              refine L_s (pc' := 39) rfl rfl ?_
              refine L_rB (pc' := 40) rfl sh_32 (by decide) (by decide) rfl ?_
              refine L_s (pc' := 41) rfl rfl ?_
              refine L_s (pc' := 43) rfl rfl ?_
              refine L_kc (pc' := 46) (as := [.ref 1018, .int 3]) (rest := [.int (g 32 (Int32.toNatClampNeg (v1 + 3)))]) rfl rfl ((e_jS_charAt_k3_c3 (by omega) _) (104) rfl) rfl ?_
              refine L_br (t := 51) (n := 49) rfl rfl (fun _ => ?_) (fun _ => ?_)
              · refine L_ii (pc' := 54) (L' := [some (.ref 32), some (.int v1), some (.int v2), some (.ref 1018), some (.int 4)]) rfl rfl q1_1 (by decide : (3 : Int32) + 1 = 4) rfl rfl ?_
                refine L_s (pc' := 25) rfl rfl ?_
                refine L_s (pc' := 27) rfl rfl ?_
                refine L_s (pc' := 28) rfl rfl ?_
                refine L_kc (pc' := 31) (as := [.ref 1018]) (rest := [.int 4]) rfl rfl ((e_jS_length_c8 (by omega) _) (5) rfl) rfl ?_
                refine L_bf (c := (5 : Int32) ≤ 4) (t := 57) (n := 34) rfl rfl (by decide) ?_
                refine L_s (pc' := 35) rfl rfl ?_
                refine L_s (pc' := 36) rfl rfl ?_
                refine L_s (pc' := 38) rfl rfl ?_
                refine L_s (pc' := 39) rfl rfl ?_
                refine L_rB (pc' := 40) rfl sh_32 (by decide) (by decide) rfl ?_
                refine L_s (pc' := 41) rfl rfl ?_
                refine L_s (pc' := 43) rfl rfl ?_
                refine L_kc (pc' := 46) (as := [.ref 1018, .int 4]) (rest := [.int (g 32 (Int32.toNatClampNeg (v1 + 4)))]) rfl rfl ((e_jS_charAt_k4_c2 (by omega) _) (116) rfl) rfl ?_
                refine L_br (t := 51) (n := 49) rfl rfl (fun _ => ?_) (fun _ => ?_)
                · refine L_ii (pc' := 54) (L' := [some (.ref 32), some (.int v1), some (.int v2), some (.ref 1018), some (.int 5)]) rfl rfl q1_1 (by decide : (4 : Int32) + 1 = 5) rfl rfl ?_
                  refine L_s (pc' := 25) rfl rfl ?_
                  refine L_s (pc' := 27) rfl rfl ?_
                  refine L_s (pc' := 28) rfl rfl ?_
                  refine L_kc (pc' := 31) (as := [.ref 1018]) (rest := [.int 5]) rfl rfl ((e_jS_length_c8 (by omega) _) (5) rfl) rfl ?_
                  refine L_bt (c := (5 : Int32) ≤ 5) (t := 57) (n := 34) rfl rfl (by decide) ?_
                  refine L_ic (pc' := 58) rfl q1_1 rfl ?_
                  exact L_ret rfl (ret_z (by decide)) rfl
                · refine L_ic (pc' := 50) rfl q1_0 rfl ?_
                  exact L_ret rfl (ret_z (by decide)) rfl
              · refine L_ic (pc' := 50) rfl q1_0 rfl ?_
                exact L_ret rfl (ret_z (by decide)) rfl
            · refine L_ic (pc' := 50) rfl q1_0 rfl ?_
              exact L_ret rfl (ret_z (by decide)) rfl
          · refine L_ic (pc' := 50) rfl q1_0 rfl ?_
            exact L_ret rfl (ret_z (by decide)) rfl
        · refine L_ic (pc' := 50) rfl q1_0 rfl ?_
          exact L_ret rfl (ret_z (by decide)) rfl
      · refine L_ic (pc' := 21) rfl q1_0 rfl ?_
        exact L_ret rfl (ret_z (by decide)) rfl
def tokens_textOf_k10  (g : Sg) : Option (Nat) :=
  (some 1019)
theorem e_tokens_textOf_k10 {X : Xx} {d : Nat} (hd : 1 ≤ d)  (g : Sg) : ∀ r, tokens_textOf_k10  g = some r → EvM zft mtl X d 85 [.int 10] (SHF, g) ((fun r : Nat => ((some (.ref r), (SHF, g)) : Out)) r) := by
  obtain ⟨d, rfl⟩ : ∃ d0, d = d0 + 1 := ⟨d - 1, by omega⟩
  have hd : 0 ≤ d := by omega
  refine E_in (f := (fun r : Nat => ((some (.ref r), (SHF, g)) : Out))) rfl (Nat.le_of_ble_eq_true rfl) ?_
  unfold tokens_textOf_k10
  change Lt X d (some (.object "java/lang/String")) k_85 _ 0 [some (.int 10)] [] g _
  refine L_s (pc' := 1) rfl rfl ?_
  refine L_ts (t := 87) (off := 86) rfl (by decide) rfl ?_
  refine L_s (pc' := 89) rfl rfl ?_
  exact L_ret rfl rfl rfl
def jS_coder_c9  (g : Sg) : Option (Int32) :=
  (some 0)
theorem e_jS_coder_c9 {X : Xx} {d : Nat} (hd : 1 ≤ d)  (g : Sg) : ∀ r, jS_coder_c9  g = some r → EvM zft mtl X d 234 [.ref 1019] (SHF, g) ((fun r : Int32 => ((some (.int r), (SHF, g)) : Out)) r) := by
  obtain ⟨d, rfl⟩ : ∃ d0, d = d0 + 1 := ⟨d - 1, by omega⟩
  have hd : 0 ≤ d := by omega
  refine E_in (f := (fun r : Int32 => ((some (.int r), (SHF, g)) : Out))) rfl (Nat.le_of_ble_eq_true rfl) ?_
  unfold jS_coder_c9
  change Lt X d (some .byte) k_234 _ 0 [some (.ref 1019)] [] g _
  refine L_s (pc' := 3) rfl rfl ?_
  refine L_bf (c := (1 : Int32) = 0) (t := 13) (n := 6) rfl rfl (by decide) ?_
  refine L_s (pc' := 7) rfl rfl ?_
  refine L_s (pc' := 10) (st' := [.int 0]) rfl rfl ?_
  refine L_s (pc' := 14) rfl rfl ?_
  exact L_ret rfl (by decide) rfl
def jS_length_c9  (g : Sg) : Option (Int32) :=
  (some 3)
theorem e_jS_length_c9 {X : Xx} {d : Nat} (hd : 2 ≤ d)  (g : Sg) : ∀ r, jS_length_c9  g = some r → EvM zft mtl X d 232 [.ref 1019] (SHF, g) ((fun r : Int32 => ((some (.int r), (SHF, g)) : Out)) r) := by
  obtain ⟨d, rfl⟩ : ∃ d0, d = d0 + 1 := ⟨d - 1, by omega⟩
  have hd : 1 ≤ d := by omega
  refine E_in (f := (fun r : Int32 => ((some (.int r), (SHF, g)) : Out))) rfl (Nat.le_of_ble_eq_true rfl) ?_
  unfold jS_length_c9
  change Lt X d (some .int) k_232 _ 0 [some (.ref 1019)] [] g _
  refine L_s (pc' := 1) rfl rfl ?_
  refine L_s (pc' := 4) (st' := [.ref 1039]) rfl rfl ?_
  refine L_s (pc' := 5) (st' := [.int 3]) rfl rfl ?_
  refine L_s (pc' := 6) rfl rfl ?_
  refine L_kc (pc' := 9) (as := [.ref 1019]) (rest := [.int 3]) rfl rfl ((e_jS_coder_c9 (by omega) _) (0) rfl) rfl ?_
  refine L_s (pc' := 10) rfl rfl ?_
  refine L_e (b := 3) (by decide) ?_
  exact L_ret rfl ret_i rfl
def jS_isLatin1_c9  (g : Sg) : Option (Int32) :=
  (some 1)
theorem e_jS_isLatin1_c9 {X : Xx} {d : Nat} (hd : 1 ≤ d)  (g : Sg) : ∀ r, jS_isLatin1_c9  g = some r → EvM zft mtl X d 235 [.ref 1019] (SHF, g) ((fun r : Int32 => ((some (.int r), (SHF, g)) : Out)) r) := by
  obtain ⟨d, rfl⟩ : ∃ d0, d = d0 + 1 := ⟨d - 1, by omega⟩
  have hd : 0 ≤ d := by omega
  refine E_in (f := (fun r : Int32 => ((some (.int r), (SHF, g)) : Out))) rfl (Nat.le_of_ble_eq_true rfl) ?_
  unfold jS_isLatin1_c9
  change Lt X d (some .boolean) k_235 _ 0 [some (.ref 1019)] [] g _
  refine L_s (pc' := 3) rfl rfl ?_
  refine L_bf (c := (1 : Int32) = 0) (t := 17) (n := 6) rfl rfl (by decide) ?_
  refine L_s (pc' := 7) rfl rfl ?_
  refine L_s (pc' := 10) (st' := [.int 0]) rfl rfl ?_
  refine L_bf (c := ¬ (0 : Int32) = 0) (t := 17) (n := 13) rfl rfl (by decide) ?_
  refine L_ic (pc' := 14) rfl q1_1 rfl ?_
  refine L_s (pc' := 18) rfl rfl ?_
  exact L_ret rfl (ret_z (by decide)) rfl
def jL_charAt_k0_c9  (g : Sg) : Option (Int32) :=
  (some 102)
theorem e_jL_charAt_k0_c9 {X : Xx} {d : Nat} (hd : 3 ≤ d)  (g : Sg) : ∀ r, jL_charAt_k0_c9  g = some r → EvM zft mtl X d 237 [.ref 1039, .int 0] (SHF, g) ((fun r : Int32 => ((some (.int r), (SHF, g)) : Out)) r) := by
  obtain ⟨d, rfl⟩ : ∃ d0, d = d0 + 1 := ⟨d - 1, by omega⟩
  have hd : 2 ≤ d := by omega
  refine E_in (f := (fun r : Int32 => ((some (.int r), (SHF, g)) : Out))) rfl (Nat.le_of_ble_eq_true rfl) ?_
  unfold jL_charAt_k0_c9
  change Lt X d (some .char) k_237 _ 0 [some (.ref 1039), some (.int 0)] [] g _
  refine L_s (pc' := 1) rfl rfl ?_
  refine L_s (pc' := 2) rfl rfl ?_
  refine L_s (pc' := 3) (st' := [.int 3, .int 0]) rfl rfl ?_
  refine L_ku (pc' := 6) (as := [.int 0, .int 3]) (rest := []) rfl rfl ((e_jS_checkIndex_k0_3 (by omega) _) () rfl) rfl ?_
  refine L_s (pc' := 7) rfl rfl ?_
  refine L_s (pc' := 8) rfl rfl ?_
  refine L_xBk (pc' := 9) rfl (rfl : xsh X 1039 = _) (by decide) (by decide) (rfl : _ = (102 : Int32)) rfl ?_
  refine L_si (pc' := 12) rfl q3_255 rfl ?_
  refine L_s (pc' := 13) rfl rfl ?_
  refine L_e (b := 102) (by decide) ?_
  refine L_s (pc' := 14) rfl rfl ?_
  refine L_e (b := 102) (by decide) ?_
  exact L_ret rfl (by decide) rfl
def jS_charAt_k0_c9  (g : Sg) : Option (Int32) :=
  (some 102)
theorem e_jS_charAt_k0_c9 {X : Xx} {d : Nat} (hd : 4 ≤ d)  (g : Sg) : ∀ r, jS_charAt_k0_c9  g = some r → EvM zft mtl X d 233 [.ref 1019, .int 0] (SHF, g) ((fun r : Int32 => ((some (.int r), (SHF, g)) : Out)) r) := by
  obtain ⟨d, rfl⟩ : ∃ d0, d = d0 + 1 := ⟨d - 1, by omega⟩
  have hd : 3 ≤ d := by omega
  refine E_in (f := (fun r : Int32 => ((some (.int r), (SHF, g)) : Out))) rfl (Nat.le_of_ble_eq_true rfl) ?_
  unfold jS_charAt_k0_c9
  change Lt X d (some .char) k_233 _ 0 [some (.ref 1019), some (.int 0)] [] g _
  refine L_s (pc' := 1) rfl rfl ?_
  refine L_kc (pc' := 4) (as := [.ref 1019]) (rest := []) rfl rfl ((e_jS_isLatin1_c9 (by omega) _) (1) rfl) rfl ?_
  refine L_bf (c := (1 : Int32) = 0) (t := 16) (n := 7) rfl rfl (by decide) ?_
  refine L_s (pc' := 8) rfl rfl ?_
  refine L_s (pc' := 11) (st' := [.ref 1039]) rfl rfl ?_
  refine L_s (pc' := 12) rfl rfl ?_
  refine L_kc (pc' := 15) (as := [.ref 1039, .int 0]) (rest := []) rfl rfl ((e_jL_charAt_k0_c9 (by omega) _) (102) rfl) rfl ?_
  exact L_ret rfl (by decide) rfl
def jL_charAt_k1_c9  (g : Sg) : Option (Int32) :=
  (some 97)
theorem e_jL_charAt_k1_c9 {X : Xx} {d : Nat} (hd : 3 ≤ d)  (g : Sg) : ∀ r, jL_charAt_k1_c9  g = some r → EvM zft mtl X d 237 [.ref 1039, .int 1] (SHF, g) ((fun r : Int32 => ((some (.int r), (SHF, g)) : Out)) r) := by
  obtain ⟨d, rfl⟩ : ∃ d0, d = d0 + 1 := ⟨d - 1, by omega⟩
  have hd : 2 ≤ d := by omega
  refine E_in (f := (fun r : Int32 => ((some (.int r), (SHF, g)) : Out))) rfl (Nat.le_of_ble_eq_true rfl) ?_
  unfold jL_charAt_k1_c9
  change Lt X d (some .char) k_237 _ 0 [some (.ref 1039), some (.int 1)] [] g _
  refine L_s (pc' := 1) rfl rfl ?_
  refine L_s (pc' := 2) rfl rfl ?_
  refine L_s (pc' := 3) (st' := [.int 3, .int 1]) rfl rfl ?_
  refine L_ku (pc' := 6) (as := [.int 1, .int 3]) (rest := []) rfl rfl ((e_jS_checkIndex_k1_3 (by omega) _) () rfl) rfl ?_
  refine L_s (pc' := 7) rfl rfl ?_
  refine L_s (pc' := 8) rfl rfl ?_
  refine L_xBk (pc' := 9) rfl (rfl : xsh X 1039 = _) (by decide) (by decide) (rfl : _ = (97 : Int32)) rfl ?_
  refine L_si (pc' := 12) rfl q3_255 rfl ?_
  refine L_s (pc' := 13) rfl rfl ?_
  refine L_e (b := 97) (by decide) ?_
  refine L_s (pc' := 14) rfl rfl ?_
  refine L_e (b := 97) (by decide) ?_
  exact L_ret rfl (by decide) rfl
def jS_charAt_k1_c9  (g : Sg) : Option (Int32) :=
  (some 97)
theorem e_jS_charAt_k1_c9 {X : Xx} {d : Nat} (hd : 4 ≤ d)  (g : Sg) : ∀ r, jS_charAt_k1_c9  g = some r → EvM zft mtl X d 233 [.ref 1019, .int 1] (SHF, g) ((fun r : Int32 => ((some (.int r), (SHF, g)) : Out)) r) := by
  obtain ⟨d, rfl⟩ : ∃ d0, d = d0 + 1 := ⟨d - 1, by omega⟩
  have hd : 3 ≤ d := by omega
  refine E_in (f := (fun r : Int32 => ((some (.int r), (SHF, g)) : Out))) rfl (Nat.le_of_ble_eq_true rfl) ?_
  unfold jS_charAt_k1_c9
  change Lt X d (some .char) k_233 _ 0 [some (.ref 1019), some (.int 1)] [] g _
  refine L_s (pc' := 1) rfl rfl ?_
  refine L_kc (pc' := 4) (as := [.ref 1019]) (rest := []) rfl rfl ((e_jS_isLatin1_c9 (by omega) _) (1) rfl) rfl ?_
  refine L_bf (c := (1 : Int32) = 0) (t := 16) (n := 7) rfl rfl (by decide) ?_
  refine L_s (pc' := 8) rfl rfl ?_
  refine L_s (pc' := 11) (st' := [.ref 1039]) rfl rfl ?_
  refine L_s (pc' := 12) rfl rfl ?_
  refine L_kc (pc' := 15) (as := [.ref 1039, .int 1]) (rest := []) rfl rfl ((e_jL_charAt_k1_c9 (by omega) _) (97) rfl) rfl ?_
  exact L_ret rfl (by decide) rfl
def jL_charAt_k2_c8  (g : Sg) : Option (Int32) :=
  (some 114)
theorem e_jL_charAt_k2_c8 {X : Xx} {d : Nat} (hd : 3 ≤ d)  (g : Sg) : ∀ r, jL_charAt_k2_c8  g = some r → EvM zft mtl X d 237 [.ref 1039, .int 2] (SHF, g) ((fun r : Int32 => ((some (.int r), (SHF, g)) : Out)) r) := by
  obtain ⟨d, rfl⟩ : ∃ d0, d = d0 + 1 := ⟨d - 1, by omega⟩
  have hd : 2 ≤ d := by omega
  refine E_in (f := (fun r : Int32 => ((some (.int r), (SHF, g)) : Out))) rfl (Nat.le_of_ble_eq_true rfl) ?_
  unfold jL_charAt_k2_c8
  change Lt X d (some .char) k_237 _ 0 [some (.ref 1039), some (.int 2)] [] g _
  refine L_s (pc' := 1) rfl rfl ?_
  refine L_s (pc' := 2) rfl rfl ?_
  refine L_s (pc' := 3) (st' := [.int 3, .int 2]) rfl rfl ?_
  refine L_ku (pc' := 6) (as := [.int 2, .int 3]) (rest := []) rfl rfl ((e_jS_checkIndex_k2_3 (by omega) _) () rfl) rfl ?_
  refine L_s (pc' := 7) rfl rfl ?_
  refine L_s (pc' := 8) rfl rfl ?_
  refine L_xBk (pc' := 9) rfl (rfl : xsh X 1039 = _) (by decide) (by decide) (rfl : _ = (114 : Int32)) rfl ?_
  refine L_si (pc' := 12) rfl q3_255 rfl ?_
  refine L_s (pc' := 13) rfl rfl ?_
  refine L_e (b := 114) (by decide) ?_
  refine L_s (pc' := 14) rfl rfl ?_
  refine L_e (b := 114) (by decide) ?_
  exact L_ret rfl (by decide) rfl
def jS_charAt_k2_c8  (g : Sg) : Option (Int32) :=
  (some 114)
theorem e_jS_charAt_k2_c8 {X : Xx} {d : Nat} (hd : 4 ≤ d)  (g : Sg) : ∀ r, jS_charAt_k2_c8  g = some r → EvM zft mtl X d 233 [.ref 1019, .int 2] (SHF, g) ((fun r : Int32 => ((some (.int r), (SHF, g)) : Out)) r) := by
  obtain ⟨d, rfl⟩ : ∃ d0, d = d0 + 1 := ⟨d - 1, by omega⟩
  have hd : 3 ≤ d := by omega
  refine E_in (f := (fun r : Int32 => ((some (.int r), (SHF, g)) : Out))) rfl (Nat.le_of_ble_eq_true rfl) ?_
  unfold jS_charAt_k2_c8
  change Lt X d (some .char) k_233 _ 0 [some (.ref 1019), some (.int 2)] [] g _
  refine L_s (pc' := 1) rfl rfl ?_
  refine L_kc (pc' := 4) (as := [.ref 1019]) (rest := []) rfl rfl ((e_jS_isLatin1_c9 (by omega) _) (1) rfl) rfl ?_
  refine L_bf (c := (1 : Int32) = 0) (t := 16) (n := 7) rfl rfl (by decide) ?_
  refine L_s (pc' := 8) rfl rfl ?_
  refine L_s (pc' := 11) (st' := [.ref 1039]) rfl rfl ?_
  refine L_s (pc' := 12) rfl rfl ?_
  refine L_kc (pc' := 15) (as := [.ref 1039, .int 2]) (rest := []) rfl rfl ((e_jL_charAt_k2_c8 (by omega) _) (114) rfl) rfl ?_
  exact L_ret rfl (by decide) rfl
def tokens_isWord_c9 (v1 : Int32) (v2 : Int32) (g : Sg) : Option (Int32) :=
  (if ¬ (v2 - v1) = 3 then
    (some 0)
  else
    (if v1 < 0 then
      (some 0)
    else
      (if v2 ≤ 500 then
        (if inb (v1 + 0) 500 = true then (if (g 32 (Int32.toNatClampNeg (v1 + 0))) = 102 then
          (if inb (v1 + 1) 500 = true then (if (g 32 (Int32.toNatClampNeg (v1 + 1))) = 97 then
            (if inb (v1 + 2) 500 = true then (if (g 32 (Int32.toNatClampNeg (v1 + 2))) = 114 then
              (some 1)
            else
              (some 0)) else none)
          else
            (some 0)) else none)
        else
          (some 0)) else none)
      else
        (some 0))))
theorem e_tokens_isWord_c9 {X : Xx} {d : Nat} (hd : 5 ≤ d) (v1 : Int32) (v2 : Int32) (g : Sg) : ∀ r, tokens_isWord_c9 v1 v2 g = some r → EvM zft mtl X d 86 [.ref 32, .int v1, .int v2, .ref 1019] (SHF, g) ((fun r : Int32 => ((some (.int r), (SHF, g)) : Out)) r) := by
  obtain ⟨d, rfl⟩ : ∃ d0, d = d0 + 1 := ⟨d - 1, by omega⟩
  have hd : 4 ≤ d := by omega
  refine E_in (f := (fun r : Int32 => ((some (.int r), (SHF, g)) : Out))) rfl (Nat.le_of_ble_eq_true rfl) ?_
  unfold tokens_isWord_c9
  change Lt X d (some .boolean) k_86 _ 0 [some (.ref 32), some (.int v1), some (.int v2), some (.ref 1019), none] [] g _
  refine L_s (pc' := 1) rfl rfl ?_
  refine L_s (pc' := 2) rfl rfl ?_
  refine L_s (pc' := 3) rfl rfl ?_
  refine L_s (pc' := 4) rfl rfl ?_
  refine L_kc (pc' := 7) (as := [.ref 1019]) (rest := [.int (v2 - v1)]) rfl rfl ((e_jS_length_c9 (by omega) _) (3) rfl) rfl ?_
  refine L_br (t := 20) (n := 10) rfl rfl (fun _ => ?_) (fun _ => ?_)
  · refine L_ic (pc' := 21) rfl q1_0 rfl ?_
    exact L_ret rfl (ret_z (by decide)) rfl
  · refine L_s (pc' := 11) rfl rfl ?_
    refine L_br (t := 20) (n := 14) rfl rfl (fun _ => ?_) (fun _ => ?_)
    · refine L_ic (pc' := 21) rfl q1_0 rfl ?_
      exact L_ret rfl (ret_z (by decide)) rfl
    · refine L_s (pc' := 15) rfl rfl ?_
      refine L_s (pc' := 16) rfl rfl ?_
      refine L_s (pc' := 17) (st' := [.int 500, .int v2]) rfl rfl ?_
      refine L_br (t := 22) (n := 20) rfl rfl (fun _ => ?_) (fun _ => ?_)
      · refine L_ic (pc' := 23) rfl q1_0 rfl ?_
        refine L_s (pc' := 25) (L' := [some (.ref 32), some (.int v1), some (.int v2), some (.ref 1019), some (.int 0)]) rfl rfl ?_
        refine L_s (pc' := 27) rfl rfl ?_
        refine L_s (pc' := 28) rfl rfl ?_
        refine L_kc (pc' := 31) (as := [.ref 1019]) (rest := [.int 0]) rfl rfl ((e_jS_length_c9 (by omega) _) (3) rfl) rfl ?_
        refine L_bf (c := (3 : Int32) ≤ 0) (t := 57) (n := 34) rfl rfl (by decide) ?_
        refine L_s (pc' := 35) rfl rfl ?_
        refine L_s (pc' := 36) rfl rfl ?_
        refine L_s (pc' := 38) rfl rfl ?_
        refine L_s (pc' := 39) rfl rfl ?_
        refine L_rB (pc' := 40) rfl sh_32 (by decide) (by decide) rfl ?_
        refine L_s (pc' := 41) rfl rfl ?_
        refine L_s (pc' := 43) rfl rfl ?_
        refine L_kc (pc' := 46) (as := [.ref 1019, .int 0]) (rest := [.int (g 32 (Int32.toNatClampNeg (v1 + 0)))]) rfl rfl ((e_jS_charAt_k0_c9 (by omega) _) (102) rfl) rfl ?_
        refine L_br (t := 51) (n := 49) rfl rfl (fun _ => ?_) (fun _ => ?_)
        · refine L_ii (pc' := 54) (L' := [some (.ref 32), some (.int v1), some (.int v2), some (.ref 1019), some (.int 1)]) rfl rfl q1_1 (by decide : (0 : Int32) + 1 = 1) rfl rfl ?_
          refine L_s (pc' := 25) rfl rfl ?_
          refine L_s (pc' := 27) rfl rfl ?_
          refine L_s (pc' := 28) rfl rfl ?_
          refine L_kc (pc' := 31) (as := [.ref 1019]) (rest := [.int 1]) rfl rfl ((e_jS_length_c9 (by omega) _) (3) rfl) rfl ?_
          refine L_bf (c := (3 : Int32) ≤ 1) (t := 57) (n := 34) rfl rfl (by decide) ?_
          refine L_s (pc' := 35) rfl rfl ?_
          refine L_s (pc' := 36) rfl rfl ?_
          refine L_s (pc' := 38) rfl rfl ?_
          refine L_s (pc' := 39) rfl rfl ?_
          refine L_rB (pc' := 40) rfl sh_32 (by decide) (by decide) rfl ?_
          refine L_s (pc' := 41) rfl rfl ?_
          refine L_s (pc' := 43) rfl rfl ?_
          refine L_kc (pc' := 46) (as := [.ref 1019, .int 1]) (rest := [.int (g 32 (Int32.toNatClampNeg (v1 + 1)))]) rfl rfl ((e_jS_charAt_k1_c9 (by omega) _) (97) rfl) rfl ?_
          refine L_br (t := 51) (n := 49) rfl rfl (fun _ => ?_) (fun _ => ?_)
          · refine L_ii (pc' := 54) (L' := [some (.ref 32), some (.int v1), some (.int v2), some (.ref 1019), some (.int 2)]) rfl rfl q1_1 (by decide : (1 : Int32) + 1 = 2) rfl rfl ?_
            refine L_s (pc' := 25) rfl rfl ?_
            refine L_s (pc' := 27) rfl rfl ?_
            refine L_s (pc' := 28) rfl rfl ?_
            refine L_kc (pc' := 31) (as := [.ref 1019]) (rest := [.int 2]) rfl rfl ((e_jS_length_c9 (by omega) _) (3) rfl) rfl ?_
            refine L_bf (c := (3 : Int32) ≤ 2) (t := 57) (n := 34) rfl rfl (by decide) ?_
            refine L_s (pc' := 35) rfl rfl ?_
            refine L_s (pc' := 36) rfl rfl ?_
            refine L_s (pc' := 38) rfl rfl ?_
            refine L_s (pc' := 39) rfl rfl ?_
            refine L_rB (pc' := 40) rfl sh_32 (by decide) (by decide) rfl ?_
            refine L_s (pc' := 41) rfl rfl ?_
            refine L_s (pc' := 43) rfl rfl ?_
            refine L_kc (pc' := 46) (as := [.ref 1019, .int 2]) (rest := [.int (g 32 (Int32.toNatClampNeg (v1 + 2)))]) rfl rfl ((e_jS_charAt_k2_c8 (by omega) _) (114) rfl) rfl ?_
            refine L_br (t := 51) (n := 49) rfl rfl (fun _ => ?_) (fun _ => ?_)
            · refine L_ii (pc' := 54) (L' := [some (.ref 32), some (.int v1), some (.int v2), some (.ref 1019), some (.int 3)]) rfl rfl q1_1 (by decide : (2 : Int32) + 1 = 3) rfl rfl ?_
              refine L_s (pc' := 25) rfl rfl ?_
              refine L_s (pc' := 27) rfl rfl ?_
              refine L_s (pc' := 28) rfl rfl ?_
              refine L_kc (pc' := 31) (as := [.ref 1019]) (rest := [.int 3]) rfl rfl ((e_jS_length_c9 (by omega) _) (3) rfl) rfl ?_
              refine L_bt (c := (3 : Int32) ≤ 3) (t := 57) (n := 34) rfl rfl (by decide) ?_
              refine L_ic (pc' := 58) rfl q1_1 rfl ?_
              exact L_ret rfl (ret_z (by decide)) rfl
            · refine L_ic (pc' := 50) rfl q1_0 rfl ?_
              exact L_ret rfl (ret_z (by decide)) rfl
          · refine L_ic (pc' := 50) rfl q1_0 rfl ?_
            exact L_ret rfl (ret_z (by decide)) rfl
        · refine L_ic (pc' := 50) rfl q1_0 rfl ?_
          exact L_ret rfl (ret_z (by decide)) rfl
      · refine L_ic (pc' := 21) rfl q1_0 rfl ?_
        exact L_ret rfl (ret_z (by decide)) rfl
def tokens_textOf_k11  (g : Sg) : Option (Nat) :=
  (some 1020)
theorem e_tokens_textOf_k11 {X : Xx} {d : Nat} (hd : 1 ≤ d)  (g : Sg) : ∀ r, tokens_textOf_k11  g = some r → EvM zft mtl X d 85 [.int 11] (SHF, g) ((fun r : Nat => ((some (.ref r), (SHF, g)) : Out)) r) := by
  obtain ⟨d, rfl⟩ : ∃ d0, d = d0 + 1 := ⟨d - 1, by omega⟩
  have hd : 0 ≤ d := by omega
  refine E_in (f := (fun r : Nat => ((some (.ref r), (SHF, g)) : Out))) rfl (Nat.le_of_ble_eq_true rfl) ?_
  unfold tokens_textOf_k11
  change Lt X d (some (.object "java/lang/String")) k_85 _ 0 [some (.int 11)] [] g _
  refine L_s (pc' := 1) rfl rfl ?_
  refine L_ts (t := 90) (off := 89) rfl (by decide) rfl ?_
  refine L_s (pc' := 92) rfl rfl ?_
  exact L_ret rfl rfl rfl
def jS_coder_c10  (g : Sg) : Option (Int32) :=
  (some 0)
theorem e_jS_coder_c10 {X : Xx} {d : Nat} (hd : 1 ≤ d)  (g : Sg) : ∀ r, jS_coder_c10  g = some r → EvM zft mtl X d 234 [.ref 1020] (SHF, g) ((fun r : Int32 => ((some (.int r), (SHF, g)) : Out)) r) := by
  obtain ⟨d, rfl⟩ : ∃ d0, d = d0 + 1 := ⟨d - 1, by omega⟩
  have hd : 0 ≤ d := by omega
  refine E_in (f := (fun r : Int32 => ((some (.int r), (SHF, g)) : Out))) rfl (Nat.le_of_ble_eq_true rfl) ?_
  unfold jS_coder_c10
  change Lt X d (some .byte) k_234 _ 0 [some (.ref 1020)] [] g _
  refine L_s (pc' := 3) rfl rfl ?_
  refine L_bf (c := (1 : Int32) = 0) (t := 13) (n := 6) rfl rfl (by decide) ?_
  refine L_s (pc' := 7) rfl rfl ?_
  refine L_s (pc' := 10) (st' := [.int 0]) rfl rfl ?_
  refine L_s (pc' := 14) rfl rfl ?_
  exact L_ret rfl (by decide) rfl
def jS_length_c10  (g : Sg) : Option (Int32) :=
  (some 6)
theorem e_jS_length_c10 {X : Xx} {d : Nat} (hd : 2 ≤ d)  (g : Sg) : ∀ r, jS_length_c10  g = some r → EvM zft mtl X d 232 [.ref 1020] (SHF, g) ((fun r : Int32 => ((some (.int r), (SHF, g)) : Out)) r) := by
  obtain ⟨d, rfl⟩ : ∃ d0, d = d0 + 1 := ⟨d - 1, by omega⟩
  have hd : 1 ≤ d := by omega
  refine E_in (f := (fun r : Int32 => ((some (.int r), (SHF, g)) : Out))) rfl (Nat.le_of_ble_eq_true rfl) ?_
  unfold jS_length_c10
  change Lt X d (some .int) k_232 _ 0 [some (.ref 1020)] [] g _
  refine L_s (pc' := 1) rfl rfl ?_
  refine L_s (pc' := 4) (st' := [.ref 1040]) rfl rfl ?_
  refine L_s (pc' := 5) (st' := [.int 6]) rfl rfl ?_
  refine L_s (pc' := 6) rfl rfl ?_
  refine L_kc (pc' := 9) (as := [.ref 1020]) (rest := [.int 6]) rfl rfl ((e_jS_coder_c10 (by omega) _) (0) rfl) rfl ?_
  refine L_s (pc' := 10) rfl rfl ?_
  refine L_e (b := 6) (by decide) ?_
  exact L_ret rfl ret_i rfl
def jS_isLatin1_c10  (g : Sg) : Option (Int32) :=
  (some 1)
theorem e_jS_isLatin1_c10 {X : Xx} {d : Nat} (hd : 1 ≤ d)  (g : Sg) : ∀ r, jS_isLatin1_c10  g = some r → EvM zft mtl X d 235 [.ref 1020] (SHF, g) ((fun r : Int32 => ((some (.int r), (SHF, g)) : Out)) r) := by
  obtain ⟨d, rfl⟩ : ∃ d0, d = d0 + 1 := ⟨d - 1, by omega⟩
  have hd : 0 ≤ d := by omega
  refine E_in (f := (fun r : Int32 => ((some (.int r), (SHF, g)) : Out))) rfl (Nat.le_of_ble_eq_true rfl) ?_
  unfold jS_isLatin1_c10
  change Lt X d (some .boolean) k_235 _ 0 [some (.ref 1020)] [] g _
  refine L_s (pc' := 3) rfl rfl ?_
  refine L_bf (c := (1 : Int32) = 0) (t := 17) (n := 6) rfl rfl (by decide) ?_
  refine L_s (pc' := 7) rfl rfl ?_
  refine L_s (pc' := 10) (st' := [.int 0]) rfl rfl ?_
  refine L_bf (c := ¬ (0 : Int32) = 0) (t := 17) (n := 13) rfl rfl (by decide) ?_
  refine L_ic (pc' := 14) rfl q1_1 rfl ?_
  refine L_s (pc' := 18) rfl rfl ?_
  exact L_ret rfl (ret_z (by decide)) rfl
def jL_charAt_k0_c10  (g : Sg) : Option (Int32) :=
  (some 104)
theorem e_jL_charAt_k0_c10 {X : Xx} {d : Nat} (hd : 3 ≤ d)  (g : Sg) : ∀ r, jL_charAt_k0_c10  g = some r → EvM zft mtl X d 237 [.ref 1040, .int 0] (SHF, g) ((fun r : Int32 => ((some (.int r), (SHF, g)) : Out)) r) := by
  obtain ⟨d, rfl⟩ : ∃ d0, d = d0 + 1 := ⟨d - 1, by omega⟩
  have hd : 2 ≤ d := by omega
  refine E_in (f := (fun r : Int32 => ((some (.int r), (SHF, g)) : Out))) rfl (Nat.le_of_ble_eq_true rfl) ?_
  unfold jL_charAt_k0_c10
  change Lt X d (some .char) k_237 _ 0 [some (.ref 1040), some (.int 0)] [] g _
  refine L_s (pc' := 1) rfl rfl ?_
  refine L_s (pc' := 2) rfl rfl ?_
  refine L_s (pc' := 3) (st' := [.int 6, .int 0]) rfl rfl ?_
  refine L_ku (pc' := 6) (as := [.int 0, .int 6]) (rest := []) rfl rfl ((e_jS_checkIndex_k0_6 (by omega) _) () rfl) rfl ?_
  refine L_s (pc' := 7) rfl rfl ?_
  refine L_s (pc' := 8) rfl rfl ?_
  refine L_xBk (pc' := 9) rfl (rfl : xsh X 1040 = _) (by decide) (by decide) (rfl : _ = (104 : Int32)) rfl ?_
  refine L_si (pc' := 12) rfl q3_255 rfl ?_
  refine L_s (pc' := 13) rfl rfl ?_
  refine L_e (b := 104) (by decide) ?_
  refine L_s (pc' := 14) rfl rfl ?_
  refine L_e (b := 104) (by decide) ?_
  exact L_ret rfl (by decide) rfl
def jS_charAt_k0_c10  (g : Sg) : Option (Int32) :=
  (some 104)
theorem e_jS_charAt_k0_c10 {X : Xx} {d : Nat} (hd : 4 ≤ d)  (g : Sg) : ∀ r, jS_charAt_k0_c10  g = some r → EvM zft mtl X d 233 [.ref 1020, .int 0] (SHF, g) ((fun r : Int32 => ((some (.int r), (SHF, g)) : Out)) r) := by
  obtain ⟨d, rfl⟩ : ∃ d0, d = d0 + 1 := ⟨d - 1, by omega⟩
  have hd : 3 ≤ d := by omega
  refine E_in (f := (fun r : Int32 => ((some (.int r), (SHF, g)) : Out))) rfl (Nat.le_of_ble_eq_true rfl) ?_
  unfold jS_charAt_k0_c10
  change Lt X d (some .char) k_233 _ 0 [some (.ref 1020), some (.int 0)] [] g _
  refine L_s (pc' := 1) rfl rfl ?_
  refine L_kc (pc' := 4) (as := [.ref 1020]) (rest := []) rfl rfl ((e_jS_isLatin1_c10 (by omega) _) (1) rfl) rfl ?_
  refine L_bf (c := (1 : Int32) = 0) (t := 16) (n := 7) rfl rfl (by decide) ?_
  refine L_s (pc' := 8) rfl rfl ?_
  refine L_s (pc' := 11) (st' := [.ref 1040]) rfl rfl ?_
  refine L_s (pc' := 12) rfl rfl ?_
  refine L_kc (pc' := 15) (as := [.ref 1040, .int 0]) (rest := []) rfl rfl ((e_jL_charAt_k0_c10 (by omega) _) (104) rfl) rfl ?_
  exact L_ret rfl (by decide) rfl
def jL_charAt_k1_c10  (g : Sg) : Option (Int32) :=
  (some 111)
theorem e_jL_charAt_k1_c10 {X : Xx} {d : Nat} (hd : 3 ≤ d)  (g : Sg) : ∀ r, jL_charAt_k1_c10  g = some r → EvM zft mtl X d 237 [.ref 1040, .int 1] (SHF, g) ((fun r : Int32 => ((some (.int r), (SHF, g)) : Out)) r) := by
  obtain ⟨d, rfl⟩ : ∃ d0, d = d0 + 1 := ⟨d - 1, by omega⟩
  have hd : 2 ≤ d := by omega
  refine E_in (f := (fun r : Int32 => ((some (.int r), (SHF, g)) : Out))) rfl (Nat.le_of_ble_eq_true rfl) ?_
  unfold jL_charAt_k1_c10
  change Lt X d (some .char) k_237 _ 0 [some (.ref 1040), some (.int 1)] [] g _
  refine L_s (pc' := 1) rfl rfl ?_
  refine L_s (pc' := 2) rfl rfl ?_
  refine L_s (pc' := 3) (st' := [.int 6, .int 1]) rfl rfl ?_
  refine L_ku (pc' := 6) (as := [.int 1, .int 6]) (rest := []) rfl rfl ((e_jS_checkIndex_k1_6 (by omega) _) () rfl) rfl ?_
  refine L_s (pc' := 7) rfl rfl ?_
  refine L_s (pc' := 8) rfl rfl ?_
  refine L_xBk (pc' := 9) rfl (rfl : xsh X 1040 = _) (by decide) (by decide) (rfl : _ = (111 : Int32)) rfl ?_
  refine L_si (pc' := 12) rfl q3_255 rfl ?_
  refine L_s (pc' := 13) rfl rfl ?_
  refine L_e (b := 111) (by decide) ?_
  refine L_s (pc' := 14) rfl rfl ?_
  refine L_e (b := 111) (by decide) ?_
  exact L_ret rfl (by decide) rfl
def jS_charAt_k1_c10  (g : Sg) : Option (Int32) :=
  (some 111)
theorem e_jS_charAt_k1_c10 {X : Xx} {d : Nat} (hd : 4 ≤ d)  (g : Sg) : ∀ r, jS_charAt_k1_c10  g = some r → EvM zft mtl X d 233 [.ref 1020, .int 1] (SHF, g) ((fun r : Int32 => ((some (.int r), (SHF, g)) : Out)) r) := by
  obtain ⟨d, rfl⟩ : ∃ d0, d = d0 + 1 := ⟨d - 1, by omega⟩
  have hd : 3 ≤ d := by omega
  refine E_in (f := (fun r : Int32 => ((some (.int r), (SHF, g)) : Out))) rfl (Nat.le_of_ble_eq_true rfl) ?_
  unfold jS_charAt_k1_c10
  change Lt X d (some .char) k_233 _ 0 [some (.ref 1020), some (.int 1)] [] g _
  refine L_s (pc' := 1) rfl rfl ?_
  refine L_kc (pc' := 4) (as := [.ref 1020]) (rest := []) rfl rfl ((e_jS_isLatin1_c10 (by omega) _) (1) rfl) rfl ?_
  refine L_bf (c := (1 : Int32) = 0) (t := 16) (n := 7) rfl rfl (by decide) ?_
  refine L_s (pc' := 8) rfl rfl ?_
  refine L_s (pc' := 11) (st' := [.ref 1040]) rfl rfl ?_
  refine L_s (pc' := 12) rfl rfl ?_
  refine L_kc (pc' := 15) (as := [.ref 1040, .int 1]) (rest := []) rfl rfl ((e_jL_charAt_k1_c10 (by omega) _) (111) rfl) rfl ?_
  exact L_ret rfl (by decide) rfl
def jL_charAt_k2_c9  (g : Sg) : Option (Int32) :=
  (some 108)
theorem e_jL_charAt_k2_c9 {X : Xx} {d : Nat} (hd : 3 ≤ d)  (g : Sg) : ∀ r, jL_charAt_k2_c9  g = some r → EvM zft mtl X d 237 [.ref 1040, .int 2] (SHF, g) ((fun r : Int32 => ((some (.int r), (SHF, g)) : Out)) r) := by
  obtain ⟨d, rfl⟩ : ∃ d0, d = d0 + 1 := ⟨d - 1, by omega⟩
  have hd : 2 ≤ d := by omega
  refine E_in (f := (fun r : Int32 => ((some (.int r), (SHF, g)) : Out))) rfl (Nat.le_of_ble_eq_true rfl) ?_
  unfold jL_charAt_k2_c9
  change Lt X d (some .char) k_237 _ 0 [some (.ref 1040), some (.int 2)] [] g _
  refine L_s (pc' := 1) rfl rfl ?_
  refine L_s (pc' := 2) rfl rfl ?_
  refine L_s (pc' := 3) (st' := [.int 6, .int 2]) rfl rfl ?_
  refine L_ku (pc' := 6) (as := [.int 2, .int 6]) (rest := []) rfl rfl ((e_jS_checkIndex_k2_6 (by omega) _) () rfl) rfl ?_
  refine L_s (pc' := 7) rfl rfl ?_
  refine L_s (pc' := 8) rfl rfl ?_
  refine L_xBk (pc' := 9) rfl (rfl : xsh X 1040 = _) (by decide) (by decide) (rfl : _ = (108 : Int32)) rfl ?_
  refine L_si (pc' := 12) rfl q3_255 rfl ?_
  refine L_s (pc' := 13) rfl rfl ?_
  refine L_e (b := 108) (by decide) ?_
  refine L_s (pc' := 14) rfl rfl ?_
  refine L_e (b := 108) (by decide) ?_
  exact L_ret rfl (by decide) rfl
def jS_charAt_k2_c9  (g : Sg) : Option (Int32) :=
  (some 108)
theorem e_jS_charAt_k2_c9 {X : Xx} {d : Nat} (hd : 4 ≤ d)  (g : Sg) : ∀ r, jS_charAt_k2_c9  g = some r → EvM zft mtl X d 233 [.ref 1020, .int 2] (SHF, g) ((fun r : Int32 => ((some (.int r), (SHF, g)) : Out)) r) := by
  obtain ⟨d, rfl⟩ : ∃ d0, d = d0 + 1 := ⟨d - 1, by omega⟩
  have hd : 3 ≤ d := by omega
  refine E_in (f := (fun r : Int32 => ((some (.int r), (SHF, g)) : Out))) rfl (Nat.le_of_ble_eq_true rfl) ?_
  unfold jS_charAt_k2_c9
  change Lt X d (some .char) k_233 _ 0 [some (.ref 1020), some (.int 2)] [] g _
  refine L_s (pc' := 1) rfl rfl ?_
  refine L_kc (pc' := 4) (as := [.ref 1020]) (rest := []) rfl rfl ((e_jS_isLatin1_c10 (by omega) _) (1) rfl) rfl ?_
  refine L_bf (c := (1 : Int32) = 0) (t := 16) (n := 7) rfl rfl (by decide) ?_
  refine L_s (pc' := 8) rfl rfl ?_
  refine L_s (pc' := 11) (st' := [.ref 1040]) rfl rfl ?_
  refine L_s (pc' := 12) rfl rfl ?_
  refine L_kc (pc' := 15) (as := [.ref 1040, .int 2]) (rest := []) rfl rfl ((e_jL_charAt_k2_c9 (by omega) _) (108) rfl) rfl ?_
  exact L_ret rfl (by decide) rfl
def jL_charAt_k3_c4  (g : Sg) : Option (Int32) :=
  (some 100)
theorem e_jL_charAt_k3_c4 {X : Xx} {d : Nat} (hd : 3 ≤ d)  (g : Sg) : ∀ r, jL_charAt_k3_c4  g = some r → EvM zft mtl X d 237 [.ref 1040, .int 3] (SHF, g) ((fun r : Int32 => ((some (.int r), (SHF, g)) : Out)) r) := by
  obtain ⟨d, rfl⟩ : ∃ d0, d = d0 + 1 := ⟨d - 1, by omega⟩
  have hd : 2 ≤ d := by omega
  refine E_in (f := (fun r : Int32 => ((some (.int r), (SHF, g)) : Out))) rfl (Nat.le_of_ble_eq_true rfl) ?_
  unfold jL_charAt_k3_c4
  change Lt X d (some .char) k_237 _ 0 [some (.ref 1040), some (.int 3)] [] g _
  refine L_s (pc' := 1) rfl rfl ?_
  refine L_s (pc' := 2) rfl rfl ?_
  refine L_s (pc' := 3) (st' := [.int 6, .int 3]) rfl rfl ?_
  refine L_ku (pc' := 6) (as := [.int 3, .int 6]) (rest := []) rfl rfl ((e_jS_checkIndex_k3_6 (by omega) _) () rfl) rfl ?_
  refine L_s (pc' := 7) rfl rfl ?_
  refine L_s (pc' := 8) rfl rfl ?_
  refine L_xBk (pc' := 9) rfl (rfl : xsh X 1040 = _) (by decide) (by decide) (rfl : _ = (100 : Int32)) rfl ?_
  refine L_si (pc' := 12) rfl q3_255 rfl ?_
  refine L_s (pc' := 13) rfl rfl ?_
  refine L_e (b := 100) (by decide) ?_
  refine L_s (pc' := 14) rfl rfl ?_
  refine L_e (b := 100) (by decide) ?_
  exact L_ret rfl (by decide) rfl
def jS_charAt_k3_c4  (g : Sg) : Option (Int32) :=
  (some 100)
theorem e_jS_charAt_k3_c4 {X : Xx} {d : Nat} (hd : 4 ≤ d)  (g : Sg) : ∀ r, jS_charAt_k3_c4  g = some r → EvM zft mtl X d 233 [.ref 1020, .int 3] (SHF, g) ((fun r : Int32 => ((some (.int r), (SHF, g)) : Out)) r) := by
  obtain ⟨d, rfl⟩ : ∃ d0, d = d0 + 1 := ⟨d - 1, by omega⟩
  have hd : 3 ≤ d := by omega
  refine E_in (f := (fun r : Int32 => ((some (.int r), (SHF, g)) : Out))) rfl (Nat.le_of_ble_eq_true rfl) ?_
  unfold jS_charAt_k3_c4
  change Lt X d (some .char) k_233 _ 0 [some (.ref 1020), some (.int 3)] [] g _
  refine L_s (pc' := 1) rfl rfl ?_
  refine L_kc (pc' := 4) (as := [.ref 1020]) (rest := []) rfl rfl ((e_jS_isLatin1_c10 (by omega) _) (1) rfl) rfl ?_
  refine L_bf (c := (1 : Int32) = 0) (t := 16) (n := 7) rfl rfl (by decide) ?_
  refine L_s (pc' := 8) rfl rfl ?_
  refine L_s (pc' := 11) (st' := [.ref 1040]) rfl rfl ?_
  refine L_s (pc' := 12) rfl rfl ?_
  refine L_kc (pc' := 15) (as := [.ref 1040, .int 3]) (rest := []) rfl rfl ((e_jL_charAt_k3_c4 (by omega) _) (100) rfl) rfl ?_
  exact L_ret rfl (by decide) rfl
def jL_charAt_k4_c3  (g : Sg) : Option (Int32) :=
  (some 101)
theorem e_jL_charAt_k4_c3 {X : Xx} {d : Nat} (hd : 3 ≤ d)  (g : Sg) : ∀ r, jL_charAt_k4_c3  g = some r → EvM zft mtl X d 237 [.ref 1040, .int 4] (SHF, g) ((fun r : Int32 => ((some (.int r), (SHF, g)) : Out)) r) := by
  obtain ⟨d, rfl⟩ : ∃ d0, d = d0 + 1 := ⟨d - 1, by omega⟩
  have hd : 2 ≤ d := by omega
  refine E_in (f := (fun r : Int32 => ((some (.int r), (SHF, g)) : Out))) rfl (Nat.le_of_ble_eq_true rfl) ?_
  unfold jL_charAt_k4_c3
  change Lt X d (some .char) k_237 _ 0 [some (.ref 1040), some (.int 4)] [] g _
  refine L_s (pc' := 1) rfl rfl ?_
  refine L_s (pc' := 2) rfl rfl ?_
  refine L_s (pc' := 3) (st' := [.int 6, .int 4]) rfl rfl ?_
  refine L_ku (pc' := 6) (as := [.int 4, .int 6]) (rest := []) rfl rfl ((e_jS_checkIndex_k4_6 (by omega) _) () rfl) rfl ?_
  refine L_s (pc' := 7) rfl rfl ?_
  refine L_s (pc' := 8) rfl rfl ?_
  refine L_xBk (pc' := 9) rfl (rfl : xsh X 1040 = _) (by decide) (by decide) (rfl : _ = (101 : Int32)) rfl ?_
  refine L_si (pc' := 12) rfl q3_255 rfl ?_
  refine L_s (pc' := 13) rfl rfl ?_
  refine L_e (b := 101) (by decide) ?_
  refine L_s (pc' := 14) rfl rfl ?_
  refine L_e (b := 101) (by decide) ?_
  exact L_ret rfl (by decide) rfl
def jS_charAt_k4_c3  (g : Sg) : Option (Int32) :=
  (some 101)
theorem e_jS_charAt_k4_c3 {X : Xx} {d : Nat} (hd : 4 ≤ d)  (g : Sg) : ∀ r, jS_charAt_k4_c3  g = some r → EvM zft mtl X d 233 [.ref 1020, .int 4] (SHF, g) ((fun r : Int32 => ((some (.int r), (SHF, g)) : Out)) r) := by
  obtain ⟨d, rfl⟩ : ∃ d0, d = d0 + 1 := ⟨d - 1, by omega⟩
  have hd : 3 ≤ d := by omega
  refine E_in (f := (fun r : Int32 => ((some (.int r), (SHF, g)) : Out))) rfl (Nat.le_of_ble_eq_true rfl) ?_
  unfold jS_charAt_k4_c3
  change Lt X d (some .char) k_233 _ 0 [some (.ref 1020), some (.int 4)] [] g _
  refine L_s (pc' := 1) rfl rfl ?_
  refine L_kc (pc' := 4) (as := [.ref 1020]) (rest := []) rfl rfl ((e_jS_isLatin1_c10 (by omega) _) (1) rfl) rfl ?_
  refine L_bf (c := (1 : Int32) = 0) (t := 16) (n := 7) rfl rfl (by decide) ?_
  refine L_s (pc' := 8) rfl rfl ?_
  refine L_s (pc' := 11) (st' := [.ref 1040]) rfl rfl ?_
  refine L_s (pc' := 12) rfl rfl ?_
  refine L_kc (pc' := 15) (as := [.ref 1040, .int 4]) (rest := []) rfl rfl ((e_jL_charAt_k4_c3 (by omega) _) (101) rfl) rfl ?_
  exact L_ret rfl (by decide) rfl
def jL_charAt_k5_c1  (g : Sg) : Option (Int32) :=
  (some 114)
theorem e_jL_charAt_k5_c1 {X : Xx} {d : Nat} (hd : 3 ≤ d)  (g : Sg) : ∀ r, jL_charAt_k5_c1  g = some r → EvM zft mtl X d 237 [.ref 1040, .int 5] (SHF, g) ((fun r : Int32 => ((some (.int r), (SHF, g)) : Out)) r) := by
  obtain ⟨d, rfl⟩ : ∃ d0, d = d0 + 1 := ⟨d - 1, by omega⟩
  have hd : 2 ≤ d := by omega
  refine E_in (f := (fun r : Int32 => ((some (.int r), (SHF, g)) : Out))) rfl (Nat.le_of_ble_eq_true rfl) ?_
  unfold jL_charAt_k5_c1
  change Lt X d (some .char) k_237 _ 0 [some (.ref 1040), some (.int 5)] [] g _
  refine L_s (pc' := 1) rfl rfl ?_
  refine L_s (pc' := 2) rfl rfl ?_
  refine L_s (pc' := 3) (st' := [.int 6, .int 5]) rfl rfl ?_
  refine L_ku (pc' := 6) (as := [.int 5, .int 6]) (rest := []) rfl rfl ((e_jS_checkIndex_k5_6 (by omega) _) () rfl) rfl ?_
  refine L_s (pc' := 7) rfl rfl ?_
  refine L_s (pc' := 8) rfl rfl ?_
  refine L_xBk (pc' := 9) rfl (rfl : xsh X 1040 = _) (by decide) (by decide) (rfl : _ = (114 : Int32)) rfl ?_
  refine L_si (pc' := 12) rfl q3_255 rfl ?_
  refine L_s (pc' := 13) rfl rfl ?_
  refine L_e (b := 114) (by decide) ?_
  refine L_s (pc' := 14) rfl rfl ?_
  refine L_e (b := 114) (by decide) ?_
  exact L_ret rfl (by decide) rfl
def jS_charAt_k5_c1  (g : Sg) : Option (Int32) :=
  (some 114)
theorem e_jS_charAt_k5_c1 {X : Xx} {d : Nat} (hd : 4 ≤ d)  (g : Sg) : ∀ r, jS_charAt_k5_c1  g = some r → EvM zft mtl X d 233 [.ref 1020, .int 5] (SHF, g) ((fun r : Int32 => ((some (.int r), (SHF, g)) : Out)) r) := by
  obtain ⟨d, rfl⟩ : ∃ d0, d = d0 + 1 := ⟨d - 1, by omega⟩
  have hd : 3 ≤ d := by omega
  refine E_in (f := (fun r : Int32 => ((some (.int r), (SHF, g)) : Out))) rfl (Nat.le_of_ble_eq_true rfl) ?_
  unfold jS_charAt_k5_c1
  change Lt X d (some .char) k_233 _ 0 [some (.ref 1020), some (.int 5)] [] g _
  refine L_s (pc' := 1) rfl rfl ?_
  refine L_kc (pc' := 4) (as := [.ref 1020]) (rest := []) rfl rfl ((e_jS_isLatin1_c10 (by omega) _) (1) rfl) rfl ?_
  refine L_bf (c := (1 : Int32) = 0) (t := 16) (n := 7) rfl rfl (by decide) ?_
  refine L_s (pc' := 8) rfl rfl ?_
  refine L_s (pc' := 11) (st' := [.ref 1040]) rfl rfl ?_
  refine L_s (pc' := 12) rfl rfl ?_
  refine L_kc (pc' := 15) (as := [.ref 1040, .int 5]) (rest := []) rfl rfl ((e_jL_charAt_k5_c1 (by omega) _) (114) rfl) rfl ?_
  exact L_ret rfl (by decide) rfl
def tokens_isWord_c10 (v1 : Int32) (v2 : Int32) (g : Sg) : Option (Int32) :=
  (if ¬ (v2 - v1) = 6 then
    (some 0)
  else
    (if v1 < 0 then
      (some 0)
    else
      (if v2 ≤ 500 then
        (if inb (v1 + 0) 500 = true then (if (g 32 (Int32.toNatClampNeg (v1 + 0))) = 104 then
          (if inb (v1 + 1) 500 = true then (if (g 32 (Int32.toNatClampNeg (v1 + 1))) = 111 then
            (if inb (v1 + 2) 500 = true then (if (g 32 (Int32.toNatClampNeg (v1 + 2))) = 108 then
              (if inb (v1 + 3) 500 = true then (if (g 32 (Int32.toNatClampNeg (v1 + 3))) = 100 then
                (if inb (v1 + 4) 500 = true then (if (g 32 (Int32.toNatClampNeg (v1 + 4))) = 101 then
                  (if inb (v1 + 5) 500 = true then (if (g 32 (Int32.toNatClampNeg (v1 + 5))) = 114 then
                    (some 1)
                  else
                    (some 0)) else none)
                else
                  (some 0)) else none)
              else
                (some 0)) else none)
            else
              (some 0)) else none)
          else
            (some 0)) else none)
        else
          (some 0)) else none)
      else
        (some 0))))
theorem e_tokens_isWord_c10 {X : Xx} {d : Nat} (hd : 5 ≤ d) (v1 : Int32) (v2 : Int32) (g : Sg) : ∀ r, tokens_isWord_c10 v1 v2 g = some r → EvM zft mtl X d 86 [.ref 32, .int v1, .int v2, .ref 1020] (SHF, g) ((fun r : Int32 => ((some (.int r), (SHF, g)) : Out)) r) := by
  obtain ⟨d, rfl⟩ : ∃ d0, d = d0 + 1 := ⟨d - 1, by omega⟩
  have hd : 4 ≤ d := by omega
  refine E_in (f := (fun r : Int32 => ((some (.int r), (SHF, g)) : Out))) rfl (Nat.le_of_ble_eq_true rfl) ?_
  unfold tokens_isWord_c10
  change Lt X d (some .boolean) k_86 _ 0 [some (.ref 32), some (.int v1), some (.int v2), some (.ref 1020), none] [] g _
  refine L_s (pc' := 1) rfl rfl ?_
  refine L_s (pc' := 2) rfl rfl ?_
  refine L_s (pc' := 3) rfl rfl ?_
  refine L_s (pc' := 4) rfl rfl ?_
  refine L_kc (pc' := 7) (as := [.ref 1020]) (rest := [.int (v2 - v1)]) rfl rfl ((e_jS_length_c10 (by omega) _) (6) rfl) rfl ?_
  refine L_br (t := 20) (n := 10) rfl rfl (fun _ => ?_) (fun _ => ?_)
  · refine L_ic (pc' := 21) rfl q1_0 rfl ?_
    exact L_ret rfl (ret_z (by decide)) rfl
  · refine L_s (pc' := 11) rfl rfl ?_
    refine L_br (t := 20) (n := 14) rfl rfl (fun _ => ?_) (fun _ => ?_)
    · refine L_ic (pc' := 21) rfl q1_0 rfl ?_
      exact L_ret rfl (ret_z (by decide)) rfl
    · refine L_s (pc' := 15) rfl rfl ?_
      refine L_s (pc' := 16) rfl rfl ?_
      refine L_s (pc' := 17) (st' := [.int 500, .int v2]) rfl rfl ?_
      refine L_br (t := 22) (n := 20) rfl rfl (fun _ => ?_) (fun _ => ?_)
      · refine L_ic (pc' := 23) rfl q1_0 rfl ?_
        refine L_s (pc' := 25) (L' := [some (.ref 32), some (.int v1), some (.int v2), some (.ref 1020), some (.int 0)]) rfl rfl ?_
        refine L_s (pc' := 27) rfl rfl ?_
        refine L_s (pc' := 28) rfl rfl ?_
        refine L_kc (pc' := 31) (as := [.ref 1020]) (rest := [.int 0]) rfl rfl ((e_jS_length_c10 (by omega) _) (6) rfl) rfl ?_
        refine L_bf (c := (6 : Int32) ≤ 0) (t := 57) (n := 34) rfl rfl (by decide) ?_
        refine L_s (pc' := 35) rfl rfl ?_
        refine L_s (pc' := 36) rfl rfl ?_
        refine L_s (pc' := 38) rfl rfl ?_
        refine L_s (pc' := 39) rfl rfl ?_
        refine L_rB (pc' := 40) rfl sh_32 (by decide) (by decide) rfl ?_
        refine L_s (pc' := 41) rfl rfl ?_
        refine L_s (pc' := 43) rfl rfl ?_
        refine L_kc (pc' := 46) (as := [.ref 1020, .int 0]) (rest := [.int (g 32 (Int32.toNatClampNeg (v1 + 0)))]) rfl rfl ((e_jS_charAt_k0_c10 (by omega) _) (104) rfl) rfl ?_
        refine L_br (t := 51) (n := 49) rfl rfl (fun _ => ?_) (fun _ => ?_)
        · refine L_ii (pc' := 54) (L' := [some (.ref 32), some (.int v1), some (.int v2), some (.ref 1020), some (.int 1)]) rfl rfl q1_1 (by decide : (0 : Int32) + 1 = 1) rfl rfl ?_
          refine L_s (pc' := 25) rfl rfl ?_
          refine L_s (pc' := 27) rfl rfl ?_
          refine L_s (pc' := 28) rfl rfl ?_
          refine L_kc (pc' := 31) (as := [.ref 1020]) (rest := [.int 1]) rfl rfl ((e_jS_length_c10 (by omega) _) (6) rfl) rfl ?_
          refine L_bf (c := (6 : Int32) ≤ 1) (t := 57) (n := 34) rfl rfl (by decide) ?_
          refine L_s (pc' := 35) rfl rfl ?_
          refine L_s (pc' := 36) rfl rfl ?_
          refine L_s (pc' := 38) rfl rfl ?_
          refine L_s (pc' := 39) rfl rfl ?_
          refine L_rB (pc' := 40) rfl sh_32 (by decide) (by decide) rfl ?_
          refine L_s (pc' := 41) rfl rfl ?_
          refine L_s (pc' := 43) rfl rfl ?_
          refine L_kc (pc' := 46) (as := [.ref 1020, .int 1]) (rest := [.int (g 32 (Int32.toNatClampNeg (v1 + 1)))]) rfl rfl ((e_jS_charAt_k1_c10 (by omega) _) (111) rfl) rfl ?_
          refine L_br (t := 51) (n := 49) rfl rfl (fun _ => ?_) (fun _ => ?_)
          · refine L_ii (pc' := 54) (L' := [some (.ref 32), some (.int v1), some (.int v2), some (.ref 1020), some (.int 2)]) rfl rfl q1_1 (by decide : (1 : Int32) + 1 = 2) rfl rfl ?_
            refine L_s (pc' := 25) rfl rfl ?_
            refine L_s (pc' := 27) rfl rfl ?_
            refine L_s (pc' := 28) rfl rfl ?_
            refine L_kc (pc' := 31) (as := [.ref 1020]) (rest := [.int 2]) rfl rfl ((e_jS_length_c10 (by omega) _) (6) rfl) rfl ?_
            refine L_bf (c := (6 : Int32) ≤ 2) (t := 57) (n := 34) rfl rfl (by decide) ?_
            refine L_s (pc' := 35) rfl rfl ?_
            refine L_s (pc' := 36) rfl rfl ?_
            refine L_s (pc' := 38) rfl rfl ?_
            refine L_s (pc' := 39) rfl rfl ?_
            refine L_rB (pc' := 40) rfl sh_32 (by decide) (by decide) rfl ?_
            refine L_s (pc' := 41) rfl rfl ?_
            refine L_s (pc' := 43) rfl rfl ?_
            refine L_kc (pc' := 46) (as := [.ref 1020, .int 2]) (rest := [.int (g 32 (Int32.toNatClampNeg (v1 + 2)))]) rfl rfl ((e_jS_charAt_k2_c9 (by omega) _) (108) rfl) rfl ?_
            refine L_br (t := 51) (n := 49) rfl rfl (fun _ => ?_) (fun _ => ?_)
            · refine L_ii (pc' := 54) (L' := [some (.ref 32), some (.int v1), some (.int v2), some (.ref 1020), some (.int 3)]) rfl rfl q1_1 (by decide : (2 : Int32) + 1 = 3) rfl rfl ?_
              refine L_s (pc' := 25) rfl rfl ?_
              refine L_s (pc' := 27) rfl rfl ?_
              refine L_s (pc' := 28) rfl rfl ?_
              refine L_kc (pc' := 31) (as := [.ref 1020]) (rest := [.int 3]) rfl rfl ((e_jS_length_c10 (by omega) _) (6) rfl) rfl ?_
              refine L_bf (c := (6 : Int32) ≤ 3) (t := 57) (n := 34) rfl rfl (by decide) ?_
              refine L_s (pc' := 35) rfl rfl ?_
              refine L_s (pc' := 36) rfl rfl ?_
              refine L_s (pc' := 38) rfl rfl ?_
              refine L_s (pc' := 39) rfl rfl ?_
              refine L_rB (pc' := 40) rfl sh_32 (by decide) (by decide) rfl ?_
              refine L_s (pc' := 41) rfl rfl ?_
              refine L_s (pc' := 43) rfl rfl ?_
              refine L_kc (pc' := 46) (as := [.ref 1020, .int 3]) (rest := [.int (g 32 (Int32.toNatClampNeg (v1 + 3)))]) rfl rfl ((e_jS_charAt_k3_c4 (by omega) _) (100) rfl) rfl ?_
              refine L_br (t := 51) (n := 49) rfl rfl (fun _ => ?_) (fun _ => ?_)
              · refine L_ii (pc' := 54) (L' := [some (.ref 32), some (.int v1), some (.int v2), some (.ref 1020), some (.int 4)]) rfl rfl q1_1 (by decide : (3 : Int32) + 1 = 4) rfl rfl ?_
                refine L_s (pc' := 25) rfl rfl ?_
                refine L_s (pc' := 27) rfl rfl ?_
                refine L_s (pc' := 28) rfl rfl ?_
                refine L_kc (pc' := 31) (as := [.ref 1020]) (rest := [.int 4]) rfl rfl ((e_jS_length_c10 (by omega) _) (6) rfl) rfl ?_
                refine L_bf (c := (6 : Int32) ≤ 4) (t := 57) (n := 34) rfl rfl (by decide) ?_
                refine L_s (pc' := 35) rfl rfl ?_
                refine L_s (pc' := 36) rfl rfl ?_
                refine L_s (pc' := 38) rfl rfl ?_
                refine L_s (pc' := 39) rfl rfl ?_
                refine L_rB (pc' := 40) rfl sh_32 (by decide) (by decide) rfl ?_
                refine L_s (pc' := 41) rfl rfl ?_
                refine L_s (pc' := 43) rfl rfl ?_
                refine L_kc (pc' := 46) (as := [.ref 1020, .int 4]) (rest := [.int (g 32 (Int32.toNatClampNeg (v1 + 4)))]) rfl rfl ((e_jS_charAt_k4_c3 (by omega) _) (101) rfl) rfl ?_
                refine L_br (t := 51) (n := 49) rfl rfl (fun _ => ?_) (fun _ => ?_)
                · refine L_ii (pc' := 54) (L' := [some (.ref 32), some (.int v1), some (.int v2), some (.ref 1020), some (.int 5)]) rfl rfl q1_1 (by decide : (4 : Int32) + 1 = 5) rfl rfl ?_
                  refine L_s (pc' := 25) rfl rfl ?_
                  refine L_s (pc' := 27) rfl rfl ?_
                  refine L_s (pc' := 28) rfl rfl ?_
                  refine L_kc (pc' := 31) (as := [.ref 1020]) (rest := [.int 5]) rfl rfl ((e_jS_length_c10 (by omega) _) (6) rfl) rfl ?_
                  refine L_bf (c := (6 : Int32) ≤ 5) (t := 57) (n := 34) rfl rfl (by decide) ?_
                  refine L_s (pc' := 35) rfl rfl ?_
                  refine L_s (pc' := 36) rfl rfl ?_
                  refine L_s (pc' := 38) rfl rfl ?_
                  refine L_s (pc' := 39) rfl rfl ?_
                  refine L_rB (pc' := 40) rfl sh_32 (by decide) (by decide) rfl ?_
                  refine L_s (pc' := 41) rfl rfl ?_
                  refine L_s (pc' := 43) rfl rfl ?_
                  refine L_kc (pc' := 46) (as := [.ref 1020, .int 5]) (rest := [.int (g 32 (Int32.toNatClampNeg (v1 + 5)))]) rfl rfl ((e_jS_charAt_k5_c1 (by omega) _) (114) rfl) rfl ?_
                  refine L_br (t := 51) (n := 49) rfl rfl (fun _ => ?_) (fun _ => ?_)
                  · refine L_ii (pc' := 54) (L' := [some (.ref 32), some (.int v1), some (.int v2), some (.ref 1020), some (.int 6)]) rfl rfl q1_1 (by decide : (5 : Int32) + 1 = 6) rfl rfl ?_
                    refine L_s (pc' := 25) rfl rfl ?_
                    refine L_s (pc' := 27) rfl rfl ?_
                    refine L_s (pc' := 28) rfl rfl ?_
                    refine L_kc (pc' := 31) (as := [.ref 1020]) (rest := [.int 6]) rfl rfl ((e_jS_length_c10 (by omega) _) (6) rfl) rfl ?_
                    refine L_bt (c := (6 : Int32) ≤ 6) (t := 57) (n := 34) rfl rfl (by decide) ?_
                    refine L_ic (pc' := 58) rfl q1_1 rfl ?_
                    exact L_ret rfl (ret_z (by decide)) rfl
                  · refine L_ic (pc' := 50) rfl q1_0 rfl ?_
                    exact L_ret rfl (ret_z (by decide)) rfl
                · refine L_ic (pc' := 50) rfl q1_0 rfl ?_
                  exact L_ret rfl (ret_z (by decide)) rfl
              · refine L_ic (pc' := 50) rfl q1_0 rfl ?_
                exact L_ret rfl (ret_z (by decide)) rfl
            · refine L_ic (pc' := 50) rfl q1_0 rfl ?_
              exact L_ret rfl (ret_z (by decide)) rfl
          · refine L_ic (pc' := 50) rfl q1_0 rfl ?_
            exact L_ret rfl (ret_z (by decide)) rfl
        · refine L_ic (pc' := 50) rfl q1_0 rfl ?_
          exact L_ret rfl (ret_z (by decide)) rfl
      · refine L_ic (pc' := 21) rfl q1_0 rfl ?_
        exact L_ret rfl (ret_z (by decide)) rfl
def tokens_textOf_k12  (g : Sg) : Option (Nat) :=
  (some 1021)
theorem e_tokens_textOf_k12 {X : Xx} {d : Nat} (hd : 1 ≤ d)  (g : Sg) : ∀ r, tokens_textOf_k12  g = some r → EvM zft mtl X d 85 [.int 12] (SHF, g) ((fun r : Nat => ((some (.ref r), (SHF, g)) : Out)) r) := by
  obtain ⟨d, rfl⟩ : ∃ d0, d = d0 + 1 := ⟨d - 1, by omega⟩
  have hd : 0 ≤ d := by omega
  refine E_in (f := (fun r : Nat => ((some (.ref r), (SHF, g)) : Out))) rfl (Nat.le_of_ble_eq_true rfl) ?_
  unfold tokens_textOf_k12
  change Lt X d (some (.object "java/lang/String")) k_85 _ 0 [some (.int 12)] [] g _
  refine L_s (pc' := 1) rfl rfl ?_
  refine L_ts (t := 93) (off := 92) rfl (by decide) rfl ?_
  refine L_s (pc' := 95) rfl rfl ?_
  exact L_ret rfl rfl rfl
def jS_coder_c11  (g : Sg) : Option (Int32) :=
  (some 0)
theorem e_jS_coder_c11 {X : Xx} {d : Nat} (hd : 1 ≤ d)  (g : Sg) : ∀ r, jS_coder_c11  g = some r → EvM zft mtl X d 234 [.ref 1021] (SHF, g) ((fun r : Int32 => ((some (.int r), (SHF, g)) : Out)) r) := by
  obtain ⟨d, rfl⟩ : ∃ d0, d = d0 + 1 := ⟨d - 1, by omega⟩
  have hd : 0 ≤ d := by omega
  refine E_in (f := (fun r : Int32 => ((some (.int r), (SHF, g)) : Out))) rfl (Nat.le_of_ble_eq_true rfl) ?_
  unfold jS_coder_c11
  change Lt X d (some .byte) k_234 _ 0 [some (.ref 1021)] [] g _
  refine L_s (pc' := 3) rfl rfl ?_
  refine L_bf (c := (1 : Int32) = 0) (t := 13) (n := 6) rfl rfl (by decide) ?_
  refine L_s (pc' := 7) rfl rfl ?_
  refine L_s (pc' := 10) (st' := [.int 0]) rfl rfl ?_
  refine L_s (pc' := 14) rfl rfl ?_
  exact L_ret rfl (by decide) rfl
def jS_length_c11  (g : Sg) : Option (Int32) :=
  (some 4)
theorem e_jS_length_c11 {X : Xx} {d : Nat} (hd : 2 ≤ d)  (g : Sg) : ∀ r, jS_length_c11  g = some r → EvM zft mtl X d 232 [.ref 1021] (SHF, g) ((fun r : Int32 => ((some (.int r), (SHF, g)) : Out)) r) := by
  obtain ⟨d, rfl⟩ : ∃ d0, d = d0 + 1 := ⟨d - 1, by omega⟩
  have hd : 1 ≤ d := by omega
  refine E_in (f := (fun r : Int32 => ((some (.int r), (SHF, g)) : Out))) rfl (Nat.le_of_ble_eq_true rfl) ?_
  unfold jS_length_c11
  change Lt X d (some .int) k_232 _ 0 [some (.ref 1021)] [] g _
  refine L_s (pc' := 1) rfl rfl ?_
  refine L_s (pc' := 4) (st' := [.ref 1041]) rfl rfl ?_
  refine L_s (pc' := 5) (st' := [.int 4]) rfl rfl ?_
  refine L_s (pc' := 6) rfl rfl ?_
  refine L_kc (pc' := 9) (as := [.ref 1021]) (rest := [.int 4]) rfl rfl ((e_jS_coder_c11 (by omega) _) (0) rfl) rfl ?_
  refine L_s (pc' := 10) rfl rfl ?_
  refine L_e (b := 4) (by decide) ?_
  exact L_ret rfl ret_i rfl
def jS_isLatin1_c11  (g : Sg) : Option (Int32) :=
  (some 1)
theorem e_jS_isLatin1_c11 {X : Xx} {d : Nat} (hd : 1 ≤ d)  (g : Sg) : ∀ r, jS_isLatin1_c11  g = some r → EvM zft mtl X d 235 [.ref 1021] (SHF, g) ((fun r : Int32 => ((some (.int r), (SHF, g)) : Out)) r) := by
  obtain ⟨d, rfl⟩ : ∃ d0, d = d0 + 1 := ⟨d - 1, by omega⟩
  have hd : 0 ≤ d := by omega
  refine E_in (f := (fun r : Int32 => ((some (.int r), (SHF, g)) : Out))) rfl (Nat.le_of_ble_eq_true rfl) ?_
  unfold jS_isLatin1_c11
  change Lt X d (some .boolean) k_235 _ 0 [some (.ref 1021)] [] g _
  refine L_s (pc' := 3) rfl rfl ?_
  refine L_bf (c := (1 : Int32) = 0) (t := 17) (n := 6) rfl rfl (by decide) ?_
  refine L_s (pc' := 7) rfl rfl ?_
  refine L_s (pc' := 10) (st' := [.int 0]) rfl rfl ?_
  refine L_bf (c := ¬ (0 : Int32) = 0) (t := 17) (n := 13) rfl rfl (by decide) ?_
  refine L_ic (pc' := 14) rfl q1_1 rfl ?_
  refine L_s (pc' := 18) rfl rfl ?_
  exact L_ret rfl (ret_z (by decide)) rfl
def jL_charAt_k0_c11  (g : Sg) : Option (Int32) :=
  (some 111)
theorem e_jL_charAt_k0_c11 {X : Xx} {d : Nat} (hd : 3 ≤ d)  (g : Sg) : ∀ r, jL_charAt_k0_c11  g = some r → EvM zft mtl X d 237 [.ref 1041, .int 0] (SHF, g) ((fun r : Int32 => ((some (.int r), (SHF, g)) : Out)) r) := by
  obtain ⟨d, rfl⟩ : ∃ d0, d = d0 + 1 := ⟨d - 1, by omega⟩
  have hd : 2 ≤ d := by omega
  refine E_in (f := (fun r : Int32 => ((some (.int r), (SHF, g)) : Out))) rfl (Nat.le_of_ble_eq_true rfl) ?_
  unfold jL_charAt_k0_c11
  change Lt X d (some .char) k_237 _ 0 [some (.ref 1041), some (.int 0)] [] g _
  refine L_s (pc' := 1) rfl rfl ?_
  refine L_s (pc' := 2) rfl rfl ?_
  refine L_s (pc' := 3) (st' := [.int 4, .int 0]) rfl rfl ?_
  refine L_ku (pc' := 6) (as := [.int 0, .int 4]) (rest := []) rfl rfl ((e_jS_checkIndex_k0_4 (by omega) _) () rfl) rfl ?_
  refine L_s (pc' := 7) rfl rfl ?_
  refine L_s (pc' := 8) rfl rfl ?_
  refine L_xBk (pc' := 9) rfl (rfl : xsh X 1041 = _) (by decide) (by decide) (rfl : _ = (111 : Int32)) rfl ?_
  refine L_si (pc' := 12) rfl q3_255 rfl ?_
  refine L_s (pc' := 13) rfl rfl ?_
  refine L_e (b := 111) (by decide) ?_
  refine L_s (pc' := 14) rfl rfl ?_
  refine L_e (b := 111) (by decide) ?_
  exact L_ret rfl (by decide) rfl
def jS_charAt_k0_c11  (g : Sg) : Option (Int32) :=
  (some 111)
theorem e_jS_charAt_k0_c11 {X : Xx} {d : Nat} (hd : 4 ≤ d)  (g : Sg) : ∀ r, jS_charAt_k0_c11  g = some r → EvM zft mtl X d 233 [.ref 1021, .int 0] (SHF, g) ((fun r : Int32 => ((some (.int r), (SHF, g)) : Out)) r) := by
  obtain ⟨d, rfl⟩ : ∃ d0, d = d0 + 1 := ⟨d - 1, by omega⟩
  have hd : 3 ≤ d := by omega
  refine E_in (f := (fun r : Int32 => ((some (.int r), (SHF, g)) : Out))) rfl (Nat.le_of_ble_eq_true rfl) ?_
  unfold jS_charAt_k0_c11
  change Lt X d (some .char) k_233 _ 0 [some (.ref 1021), some (.int 0)] [] g _
  refine L_s (pc' := 1) rfl rfl ?_
  refine L_kc (pc' := 4) (as := [.ref 1021]) (rest := []) rfl rfl ((e_jS_isLatin1_c11 (by omega) _) (1) rfl) rfl ?_
  refine L_bf (c := (1 : Int32) = 0) (t := 16) (n := 7) rfl rfl (by decide) ?_
  refine L_s (pc' := 8) rfl rfl ?_
  refine L_s (pc' := 11) (st' := [.ref 1041]) rfl rfl ?_
  refine L_s (pc' := 12) rfl rfl ?_
  refine L_kc (pc' := 15) (as := [.ref 1041, .int 0]) (rest := []) rfl rfl ((e_jL_charAt_k0_c11 (by omega) _) (111) rfl) rfl ?_
  exact L_ret rfl (by decide) rfl
def jL_charAt_k1_c11  (g : Sg) : Option (Int32) :=
  (some 119)
theorem e_jL_charAt_k1_c11 {X : Xx} {d : Nat} (hd : 3 ≤ d)  (g : Sg) : ∀ r, jL_charAt_k1_c11  g = some r → EvM zft mtl X d 237 [.ref 1041, .int 1] (SHF, g) ((fun r : Int32 => ((some (.int r), (SHF, g)) : Out)) r) := by
  obtain ⟨d, rfl⟩ : ∃ d0, d = d0 + 1 := ⟨d - 1, by omega⟩
  have hd : 2 ≤ d := by omega
  refine E_in (f := (fun r : Int32 => ((some (.int r), (SHF, g)) : Out))) rfl (Nat.le_of_ble_eq_true rfl) ?_
  unfold jL_charAt_k1_c11
  change Lt X d (some .char) k_237 _ 0 [some (.ref 1041), some (.int 1)] [] g _
  refine L_s (pc' := 1) rfl rfl ?_
  refine L_s (pc' := 2) rfl rfl ?_
  refine L_s (pc' := 3) (st' := [.int 4, .int 1]) rfl rfl ?_
  refine L_ku (pc' := 6) (as := [.int 1, .int 4]) (rest := []) rfl rfl ((e_jS_checkIndex_k1_4 (by omega) _) () rfl) rfl ?_
  refine L_s (pc' := 7) rfl rfl ?_
  refine L_s (pc' := 8) rfl rfl ?_
  refine L_xBk (pc' := 9) rfl (rfl : xsh X 1041 = _) (by decide) (by decide) (rfl : _ = (119 : Int32)) rfl ?_
  refine L_si (pc' := 12) rfl q3_255 rfl ?_
  refine L_s (pc' := 13) rfl rfl ?_
  refine L_e (b := 119) (by decide) ?_
  refine L_s (pc' := 14) rfl rfl ?_
  refine L_e (b := 119) (by decide) ?_
  exact L_ret rfl (by decide) rfl
def jS_charAt_k1_c11  (g : Sg) : Option (Int32) :=
  (some 119)
theorem e_jS_charAt_k1_c11 {X : Xx} {d : Nat} (hd : 4 ≤ d)  (g : Sg) : ∀ r, jS_charAt_k1_c11  g = some r → EvM zft mtl X d 233 [.ref 1021, .int 1] (SHF, g) ((fun r : Int32 => ((some (.int r), (SHF, g)) : Out)) r) := by
  obtain ⟨d, rfl⟩ : ∃ d0, d = d0 + 1 := ⟨d - 1, by omega⟩
  have hd : 3 ≤ d := by omega
  refine E_in (f := (fun r : Int32 => ((some (.int r), (SHF, g)) : Out))) rfl (Nat.le_of_ble_eq_true rfl) ?_
  unfold jS_charAt_k1_c11
  change Lt X d (some .char) k_233 _ 0 [some (.ref 1021), some (.int 1)] [] g _
  refine L_s (pc' := 1) rfl rfl ?_
  refine L_kc (pc' := 4) (as := [.ref 1021]) (rest := []) rfl rfl ((e_jS_isLatin1_c11 (by omega) _) (1) rfl) rfl ?_
  refine L_bf (c := (1 : Int32) = 0) (t := 16) (n := 7) rfl rfl (by decide) ?_
  refine L_s (pc' := 8) rfl rfl ?_
  refine L_s (pc' := 11) (st' := [.ref 1041]) rfl rfl ?_
  refine L_s (pc' := 12) rfl rfl ?_
  refine L_kc (pc' := 15) (as := [.ref 1041, .int 1]) (rest := []) rfl rfl ((e_jL_charAt_k1_c11 (by omega) _) (119) rfl) rfl ?_
  exact L_ret rfl (by decide) rfl
def jL_charAt_k2_c10  (g : Sg) : Option (Int32) :=
  (some 101)
theorem e_jL_charAt_k2_c10 {X : Xx} {d : Nat} (hd : 3 ≤ d)  (g : Sg) : ∀ r, jL_charAt_k2_c10  g = some r → EvM zft mtl X d 237 [.ref 1041, .int 2] (SHF, g) ((fun r : Int32 => ((some (.int r), (SHF, g)) : Out)) r) := by
  obtain ⟨d, rfl⟩ : ∃ d0, d = d0 + 1 := ⟨d - 1, by omega⟩
  have hd : 2 ≤ d := by omega
  refine E_in (f := (fun r : Int32 => ((some (.int r), (SHF, g)) : Out))) rfl (Nat.le_of_ble_eq_true rfl) ?_
  unfold jL_charAt_k2_c10
  change Lt X d (some .char) k_237 _ 0 [some (.ref 1041), some (.int 2)] [] g _
  refine L_s (pc' := 1) rfl rfl ?_
  refine L_s (pc' := 2) rfl rfl ?_
  refine L_s (pc' := 3) (st' := [.int 4, .int 2]) rfl rfl ?_
  refine L_ku (pc' := 6) (as := [.int 2, .int 4]) (rest := []) rfl rfl ((e_jS_checkIndex_k2_4 (by omega) _) () rfl) rfl ?_
  refine L_s (pc' := 7) rfl rfl ?_
  refine L_s (pc' := 8) rfl rfl ?_
  refine L_xBk (pc' := 9) rfl (rfl : xsh X 1041 = _) (by decide) (by decide) (rfl : _ = (101 : Int32)) rfl ?_
  refine L_si (pc' := 12) rfl q3_255 rfl ?_
  refine L_s (pc' := 13) rfl rfl ?_
  refine L_e (b := 101) (by decide) ?_
  refine L_s (pc' := 14) rfl rfl ?_
  refine L_e (b := 101) (by decide) ?_
  exact L_ret rfl (by decide) rfl
def jS_charAt_k2_c10  (g : Sg) : Option (Int32) :=
  (some 101)
theorem e_jS_charAt_k2_c10 {X : Xx} {d : Nat} (hd : 4 ≤ d)  (g : Sg) : ∀ r, jS_charAt_k2_c10  g = some r → EvM zft mtl X d 233 [.ref 1021, .int 2] (SHF, g) ((fun r : Int32 => ((some (.int r), (SHF, g)) : Out)) r) := by
  obtain ⟨d, rfl⟩ : ∃ d0, d = d0 + 1 := ⟨d - 1, by omega⟩
  have hd : 3 ≤ d := by omega
  refine E_in (f := (fun r : Int32 => ((some (.int r), (SHF, g)) : Out))) rfl (Nat.le_of_ble_eq_true rfl) ?_
  unfold jS_charAt_k2_c10
  change Lt X d (some .char) k_233 _ 0 [some (.ref 1021), some (.int 2)] [] g _
  refine L_s (pc' := 1) rfl rfl ?_
  refine L_kc (pc' := 4) (as := [.ref 1021]) (rest := []) rfl rfl ((e_jS_isLatin1_c11 (by omega) _) (1) rfl) rfl ?_
  refine L_bf (c := (1 : Int32) = 0) (t := 16) (n := 7) rfl rfl (by decide) ?_
  refine L_s (pc' := 8) rfl rfl ?_
  refine L_s (pc' := 11) (st' := [.ref 1041]) rfl rfl ?_
  refine L_s (pc' := 12) rfl rfl ?_
  refine L_kc (pc' := 15) (as := [.ref 1041, .int 2]) (rest := []) rfl rfl ((e_jL_charAt_k2_c10 (by omega) _) (101) rfl) rfl ?_
  exact L_ret rfl (by decide) rfl
def jL_charAt_k3_c5  (g : Sg) : Option (Int32) :=
  (some 100)
theorem e_jL_charAt_k3_c5 {X : Xx} {d : Nat} (hd : 3 ≤ d)  (g : Sg) : ∀ r, jL_charAt_k3_c5  g = some r → EvM zft mtl X d 237 [.ref 1041, .int 3] (SHF, g) ((fun r : Int32 => ((some (.int r), (SHF, g)) : Out)) r) := by
  obtain ⟨d, rfl⟩ : ∃ d0, d = d0 + 1 := ⟨d - 1, by omega⟩
  have hd : 2 ≤ d := by omega
  refine E_in (f := (fun r : Int32 => ((some (.int r), (SHF, g)) : Out))) rfl (Nat.le_of_ble_eq_true rfl) ?_
  unfold jL_charAt_k3_c5
  change Lt X d (some .char) k_237 _ 0 [some (.ref 1041), some (.int 3)] [] g _
  refine L_s (pc' := 1) rfl rfl ?_
  refine L_s (pc' := 2) rfl rfl ?_
  refine L_s (pc' := 3) (st' := [.int 4, .int 3]) rfl rfl ?_
  refine L_ku (pc' := 6) (as := [.int 3, .int 4]) (rest := []) rfl rfl ((e_jS_checkIndex_k3_4 (by omega) _) () rfl) rfl ?_
  refine L_s (pc' := 7) rfl rfl ?_
  refine L_s (pc' := 8) rfl rfl ?_
  refine L_xBk (pc' := 9) rfl (rfl : xsh X 1041 = _) (by decide) (by decide) (rfl : _ = (100 : Int32)) rfl ?_
  refine L_si (pc' := 12) rfl q3_255 rfl ?_
  refine L_s (pc' := 13) rfl rfl ?_
  refine L_e (b := 100) (by decide) ?_
  refine L_s (pc' := 14) rfl rfl ?_
  refine L_e (b := 100) (by decide) ?_
  exact L_ret rfl (by decide) rfl
def jS_charAt_k3_c5  (g : Sg) : Option (Int32) :=
  (some 100)
theorem e_jS_charAt_k3_c5 {X : Xx} {d : Nat} (hd : 4 ≤ d)  (g : Sg) : ∀ r, jS_charAt_k3_c5  g = some r → EvM zft mtl X d 233 [.ref 1021, .int 3] (SHF, g) ((fun r : Int32 => ((some (.int r), (SHF, g)) : Out)) r) := by
  obtain ⟨d, rfl⟩ : ∃ d0, d = d0 + 1 := ⟨d - 1, by omega⟩
  have hd : 3 ≤ d := by omega
  refine E_in (f := (fun r : Int32 => ((some (.int r), (SHF, g)) : Out))) rfl (Nat.le_of_ble_eq_true rfl) ?_
  unfold jS_charAt_k3_c5
  change Lt X d (some .char) k_233 _ 0 [some (.ref 1021), some (.int 3)] [] g _
  refine L_s (pc' := 1) rfl rfl ?_
  refine L_kc (pc' := 4) (as := [.ref 1021]) (rest := []) rfl rfl ((e_jS_isLatin1_c11 (by omega) _) (1) rfl) rfl ?_
  refine L_bf (c := (1 : Int32) = 0) (t := 16) (n := 7) rfl rfl (by decide) ?_
  refine L_s (pc' := 8) rfl rfl ?_
  refine L_s (pc' := 11) (st' := [.ref 1041]) rfl rfl ?_
  refine L_s (pc' := 12) rfl rfl ?_
  refine L_kc (pc' := 15) (as := [.ref 1041, .int 3]) (rest := []) rfl rfl ((e_jL_charAt_k3_c5 (by omega) _) (100) rfl) rfl ?_
  exact L_ret rfl (by decide) rfl
def tokens_isWord_c11 (v1 : Int32) (v2 : Int32) (g : Sg) : Option (Int32) :=
  (if ¬ (v2 - v1) = 4 then
    (some 0)
  else
    (if v1 < 0 then
      (some 0)
    else
      (if v2 ≤ 500 then
        (if inb (v1 + 0) 500 = true then (if (g 32 (Int32.toNatClampNeg (v1 + 0))) = 111 then
          (if inb (v1 + 1) 500 = true then (if (g 32 (Int32.toNatClampNeg (v1 + 1))) = 119 then
            (if inb (v1 + 2) 500 = true then (if (g 32 (Int32.toNatClampNeg (v1 + 2))) = 101 then
              (if inb (v1 + 3) 500 = true then (if (g 32 (Int32.toNatClampNeg (v1 + 3))) = 100 then
                (some 1)
              else
                (some 0)) else none)
            else
              (some 0)) else none)
          else
            (some 0)) else none)
        else
          (some 0)) else none)
      else
        (some 0))))
theorem e_tokens_isWord_c11 {X : Xx} {d : Nat} (hd : 5 ≤ d) (v1 : Int32) (v2 : Int32) (g : Sg) : ∀ r, tokens_isWord_c11 v1 v2 g = some r → EvM zft mtl X d 86 [.ref 32, .int v1, .int v2, .ref 1021] (SHF, g) ((fun r : Int32 => ((some (.int r), (SHF, g)) : Out)) r) := by
  obtain ⟨d, rfl⟩ : ∃ d0, d = d0 + 1 := ⟨d - 1, by omega⟩
  have hd : 4 ≤ d := by omega
  refine E_in (f := (fun r : Int32 => ((some (.int r), (SHF, g)) : Out))) rfl (Nat.le_of_ble_eq_true rfl) ?_
  unfold tokens_isWord_c11
  change Lt X d (some .boolean) k_86 _ 0 [some (.ref 32), some (.int v1), some (.int v2), some (.ref 1021), none] [] g _
  refine L_s (pc' := 1) rfl rfl ?_
  refine L_s (pc' := 2) rfl rfl ?_
  refine L_s (pc' := 3) rfl rfl ?_
  refine L_s (pc' := 4) rfl rfl ?_
  refine L_kc (pc' := 7) (as := [.ref 1021]) (rest := [.int (v2 - v1)]) rfl rfl ((e_jS_length_c11 (by omega) _) (4) rfl) rfl ?_
  refine L_br (t := 20) (n := 10) rfl rfl (fun _ => ?_) (fun _ => ?_)
  · refine L_ic (pc' := 21) rfl q1_0 rfl ?_
    exact L_ret rfl (ret_z (by decide)) rfl
  · refine L_s (pc' := 11) rfl rfl ?_
    refine L_br (t := 20) (n := 14) rfl rfl (fun _ => ?_) (fun _ => ?_)
    · refine L_ic (pc' := 21) rfl q1_0 rfl ?_
      exact L_ret rfl (ret_z (by decide)) rfl
    · refine L_s (pc' := 15) rfl rfl ?_
      refine L_s (pc' := 16) rfl rfl ?_
      refine L_s (pc' := 17) (st' := [.int 500, .int v2]) rfl rfl ?_
      refine L_br (t := 22) (n := 20) rfl rfl (fun _ => ?_) (fun _ => ?_)
      · refine L_ic (pc' := 23) rfl q1_0 rfl ?_
        refine L_s (pc' := 25) (L' := [some (.ref 32), some (.int v1), some (.int v2), some (.ref 1021), some (.int 0)]) rfl rfl ?_
        refine L_s (pc' := 27) rfl rfl ?_
        refine L_s (pc' := 28) rfl rfl ?_
        refine L_kc (pc' := 31) (as := [.ref 1021]) (rest := [.int 0]) rfl rfl ((e_jS_length_c11 (by omega) _) (4) rfl) rfl ?_
        refine L_bf (c := (4 : Int32) ≤ 0) (t := 57) (n := 34) rfl rfl (by decide) ?_
        refine L_s (pc' := 35) rfl rfl ?_
        refine L_s (pc' := 36) rfl rfl ?_
        refine L_s (pc' := 38) rfl rfl ?_
        refine L_s (pc' := 39) rfl rfl ?_
        refine L_rB (pc' := 40) rfl sh_32 (by decide) (by decide) rfl ?_
        refine L_s (pc' := 41) rfl rfl ?_
        refine L_s (pc' := 43) rfl rfl ?_
        refine L_kc (pc' := 46) (as := [.ref 1021, .int 0]) (rest := [.int (g 32 (Int32.toNatClampNeg (v1 + 0)))]) rfl rfl ((e_jS_charAt_k0_c11 (by omega) _) (111) rfl) rfl ?_
        refine L_br (t := 51) (n := 49) rfl rfl (fun _ => ?_) (fun _ => ?_)
        · refine L_ii (pc' := 54) (L' := [some (.ref 32), some (.int v1), some (.int v2), some (.ref 1021), some (.int 1)]) rfl rfl q1_1 (by decide : (0 : Int32) + 1 = 1) rfl rfl ?_
          refine L_s (pc' := 25) rfl rfl ?_
          refine L_s (pc' := 27) rfl rfl ?_
          refine L_s (pc' := 28) rfl rfl ?_
          refine L_kc (pc' := 31) (as := [.ref 1021]) (rest := [.int 1]) rfl rfl ((e_jS_length_c11 (by omega) _) (4) rfl) rfl ?_
          refine L_bf (c := (4 : Int32) ≤ 1) (t := 57) (n := 34) rfl rfl (by decide) ?_
          refine L_s (pc' := 35) rfl rfl ?_
          refine L_s (pc' := 36) rfl rfl ?_
          refine L_s (pc' := 38) rfl rfl ?_
          refine L_s (pc' := 39) rfl rfl ?_
          refine L_rB (pc' := 40) rfl sh_32 (by decide) (by decide) rfl ?_
          refine L_s (pc' := 41) rfl rfl ?_
          refine L_s (pc' := 43) rfl rfl ?_
          refine L_kc (pc' := 46) (as := [.ref 1021, .int 1]) (rest := [.int (g 32 (Int32.toNatClampNeg (v1 + 1)))]) rfl rfl ((e_jS_charAt_k1_c11 (by omega) _) (119) rfl) rfl ?_
          refine L_br (t := 51) (n := 49) rfl rfl (fun _ => ?_) (fun _ => ?_)
          · refine L_ii (pc' := 54) (L' := [some (.ref 32), some (.int v1), some (.int v2), some (.ref 1021), some (.int 2)]) rfl rfl q1_1 (by decide : (1 : Int32) + 1 = 2) rfl rfl ?_
            refine L_s (pc' := 25) rfl rfl ?_
            refine L_s (pc' := 27) rfl rfl ?_
            refine L_s (pc' := 28) rfl rfl ?_
            refine L_kc (pc' := 31) (as := [.ref 1021]) (rest := [.int 2]) rfl rfl ((e_jS_length_c11 (by omega) _) (4) rfl) rfl ?_
            refine L_bf (c := (4 : Int32) ≤ 2) (t := 57) (n := 34) rfl rfl (by decide) ?_
            refine L_s (pc' := 35) rfl rfl ?_
            refine L_s (pc' := 36) rfl rfl ?_
            refine L_s (pc' := 38) rfl rfl ?_
            refine L_s (pc' := 39) rfl rfl ?_
            refine L_rB (pc' := 40) rfl sh_32 (by decide) (by decide) rfl ?_
            refine L_s (pc' := 41) rfl rfl ?_
            refine L_s (pc' := 43) rfl rfl ?_
            refine L_kc (pc' := 46) (as := [.ref 1021, .int 2]) (rest := [.int (g 32 (Int32.toNatClampNeg (v1 + 2)))]) rfl rfl ((e_jS_charAt_k2_c10 (by omega) _) (101) rfl) rfl ?_
            refine L_br (t := 51) (n := 49) rfl rfl (fun _ => ?_) (fun _ => ?_)
            · refine L_ii (pc' := 54) (L' := [some (.ref 32), some (.int v1), some (.int v2), some (.ref 1021), some (.int 3)]) rfl rfl q1_1 (by decide : (2 : Int32) + 1 = 3) rfl rfl ?_
              refine L_s (pc' := 25) rfl rfl ?_
              refine L_s (pc' := 27) rfl rfl ?_
              refine L_s (pc' := 28) rfl rfl ?_
              refine L_kc (pc' := 31) (as := [.ref 1021]) (rest := [.int 3]) rfl rfl ((e_jS_length_c11 (by omega) _) (4) rfl) rfl ?_
              refine L_bf (c := (4 : Int32) ≤ 3) (t := 57) (n := 34) rfl rfl (by decide) ?_
              refine L_s (pc' := 35) rfl rfl ?_
              refine L_s (pc' := 36) rfl rfl ?_
              refine L_s (pc' := 38) rfl rfl ?_
              refine L_s (pc' := 39) rfl rfl ?_
              refine L_rB (pc' := 40) rfl sh_32 (by decide) (by decide) rfl ?_
              refine L_s (pc' := 41) rfl rfl ?_
              refine L_s (pc' := 43) rfl rfl ?_
              refine L_kc (pc' := 46) (as := [.ref 1021, .int 3]) (rest := [.int (g 32 (Int32.toNatClampNeg (v1 + 3)))]) rfl rfl ((e_jS_charAt_k3_c5 (by omega) _) (100) rfl) rfl ?_
              refine L_br (t := 51) (n := 49) rfl rfl (fun _ => ?_) (fun _ => ?_)
              · refine L_ii (pc' := 54) (L' := [some (.ref 32), some (.int v1), some (.int v2), some (.ref 1021), some (.int 4)]) rfl rfl q1_1 (by decide : (3 : Int32) + 1 = 4) rfl rfl ?_
                refine L_s (pc' := 25) rfl rfl ?_
                refine L_s (pc' := 27) rfl rfl ?_
                refine L_s (pc' := 28) rfl rfl ?_
                refine L_kc (pc' := 31) (as := [.ref 1021]) (rest := [.int 4]) rfl rfl ((e_jS_length_c11 (by omega) _) (4) rfl) rfl ?_
                refine L_bt (c := (4 : Int32) ≤ 4) (t := 57) (n := 34) rfl rfl (by decide) ?_
                refine L_ic (pc' := 58) rfl q1_1 rfl ?_
                exact L_ret rfl (ret_z (by decide)) rfl
              · refine L_ic (pc' := 50) rfl q1_0 rfl ?_
                exact L_ret rfl (ret_z (by decide)) rfl
            · refine L_ic (pc' := 50) rfl q1_0 rfl ?_
              exact L_ret rfl (ret_z (by decide)) rfl
          · refine L_ic (pc' := 50) rfl q1_0 rfl ?_
            exact L_ret rfl (ret_z (by decide)) rfl
        · refine L_ic (pc' := 50) rfl q1_0 rfl ?_
          exact L_ret rfl (ret_z (by decide)) rfl
      · refine L_ic (pc' := 21) rfl q1_0 rfl ?_
        exact L_ret rfl (ret_z (by decide)) rfl
def tokens_wordOf (v1 : Int32) (v2 : Int32) (g : Sg) : Option (Int32) :=
  Option.bind (tokens_isWord v1 v2 g) (fun x2 => (if x2 = 0 then
    Option.bind (tokens_isWord_c1 v1 v2 g) (fun x4 => (if x4 = 0 then
      Option.bind (tokens_isWord_c2 v1 v2 g) (fun x6 => (if x6 = 0 then
        Option.bind (tokens_isWord_c3 v1 v2 g) (fun x8 => (if x8 = 0 then
          Option.bind (tokens_isWord_c4 v1 v2 g) (fun x10 => (if x10 = 0 then
            Option.bind (tokens_isWord_c5 v1 v2 g) (fun x12 => (if x12 = 0 then
              Option.bind (tokens_isWord_c6 v1 v2 g) (fun x14 => (if x14 = 0 then
                Option.bind (tokens_isWord_c7 v1 v2 g) (fun x16 => (if x16 = 0 then
                  Option.bind (tokens_isWord_c8 v1 v2 g) (fun x18 => (if x18 = 0 then
                    Option.bind (tokens_isWord_c9 v1 v2 g) (fun x20 => (if x20 = 0 then
                      Option.bind (tokens_isWord_c10 v1 v2 g) (fun x22 => (if x22 = 0 then
                        Option.bind (tokens_isWord_c11 v1 v2 g) (fun x24 => (if x24 = 0 then
                          (some 0)
                        else
                          (some 12)))
                      else
                        (some 11)))
                    else
                      (some 10)))
                  else
                    (some 9)))
                else
                  (some 8)))
              else
                (some 7)))
            else
              (some 6)))
          else
            (some 5)))
        else
          (some 4)))
      else
        (some 3)))
    else
      (some 2)))
  else
    (some 1)))
theorem e_tokens_wordOf {X : Xx} {d : Nat} (hd : 6 ≤ d) (v1 : Int32) (v2 : Int32) (g : Sg) : ∀ r, tokens_wordOf v1 v2 g = some r → EvM zft mtl X d 84 [.ref 32, .int v1, .int v2] (SHF, g) ((fun r : Int32 => ((some (.int r), (SHF, g)) : Out)) r) := by
  obtain ⟨d, rfl⟩ : ∃ d0, d = d0 + 1 := ⟨d - 1, by omega⟩
  have hd : 5 ≤ d := by omega
  refine E_in (f := (fun r : Int32 => ((some (.int r), (SHF, g)) : Out))) rfl (Nat.le_of_ble_eq_true rfl) ?_
  unfold tokens_wordOf
  change Lt X d (some .int) k_84 _ 0 [some (.ref 32), some (.int v1), some (.int v2), none] [] g _
  refine L_ic (pc' := 1) rfl q1_1 rfl ?_
  refine L_s (pc' := 2) (L' := [some (.ref 32), some (.int v1), some (.int v2), some (.int 1)]) rfl rfl ?_
  refine L_s (pc' := 3) rfl rfl ?_
  refine L_bi (pc' := 5) rfl q2_12 rfl ?_
  refine L_bf (c := (12 : Int32) < 1) (t := 29) (n := 8) rfl rfl (by decide) ?_
  refine L_s (pc' := 9) rfl rfl ?_
  refine L_s (pc' := 10) rfl rfl ?_
  refine L_s (pc' := 11) rfl rfl ?_
  refine L_s (pc' := 12) rfl rfl ?_
  refine L_kr (pc' := 15) (as := [.int 1]) (rest := [.int v2, .int v1, .ref 32]) rfl rfl ((e_tokens_textOf_k1 (by omega) _) (1010) rfl) rfl ?_
  refine L_ci (pc' := 18) (as := [.ref 32, .int v1, .int v2, .ref 1010]) (rest := []) rfl rfl (e_tokens_isWord (by omega) _ _ _) rfl fun x2 => ?_
  refine L_br (t := 23) (n := 21) rfl rfl (fun _ => ?_) (fun _ => ?_)
  · refine L_ii (pc' := 26) (L' := [some (.ref 32), some (.int v1), some (.int v2), some (.int 2)]) rfl rfl q1_1 (by decide : (1 : Int32) + 1 = 2) rfl rfl ?_
    refine L_s (pc' := 2) rfl rfl ?_
    refine L_s (pc' := 3) rfl rfl ?_
    refine L_bi (pc' := 5) rfl q2_12 rfl ?_
    refine L_bf (c := (12 : Int32) < 2) (t := 29) (n := 8) rfl rfl (by decide) ?_
    refine L_s (pc' := 9) rfl rfl ?_
    refine L_s (pc' := 10) rfl rfl ?_
    refine L_s (pc' := 11) rfl rfl ?_
    refine L_s (pc' := 12) rfl rfl ?_
    refine L_kr (pc' := 15) (as := [.int 2]) (rest := [.int v2, .int v1, .ref 32]) rfl rfl ((e_tokens_textOf_k2 (by omega) _) (1011) rfl) rfl ?_
    refine L_ci (pc' := 18) (as := [.ref 32, .int v1, .int v2, .ref 1011]) (rest := []) rfl rfl (e_tokens_isWord_c1 (by omega) _ _ _) rfl fun x4 => ?_
    refine L_br (t := 23) (n := 21) rfl rfl (fun _ => ?_) (fun _ => ?_)
    · refine L_ii (pc' := 26) (L' := [some (.ref 32), some (.int v1), some (.int v2), some (.int 3)]) rfl rfl q1_1 (by decide : (2 : Int32) + 1 = 3) rfl rfl ?_
      refine L_s (pc' := 2) rfl rfl ?_
      refine L_s (pc' := 3) rfl rfl ?_
      refine L_bi (pc' := 5) rfl q2_12 rfl ?_
      refine L_bf (c := (12 : Int32) < 3) (t := 29) (n := 8) rfl rfl (by decide) ?_
      refine L_s (pc' := 9) rfl rfl ?_
      refine L_s (pc' := 10) rfl rfl ?_
      refine L_s (pc' := 11) rfl rfl ?_
      refine L_s (pc' := 12) rfl rfl ?_
      refine L_kr (pc' := 15) (as := [.int 3]) (rest := [.int v2, .int v1, .ref 32]) rfl rfl ((e_tokens_textOf_k3 (by omega) _) (1012) rfl) rfl ?_
      refine L_ci (pc' := 18) (as := [.ref 32, .int v1, .int v2, .ref 1012]) (rest := []) rfl rfl (e_tokens_isWord_c2 (by omega) _ _ _) rfl fun x6 => ?_
      refine L_br (t := 23) (n := 21) rfl rfl (fun _ => ?_) (fun _ => ?_)
      · refine L_ii (pc' := 26) (L' := [some (.ref 32), some (.int v1), some (.int v2), some (.int 4)]) rfl rfl q1_1 (by decide : (3 : Int32) + 1 = 4) rfl rfl ?_
        refine L_s (pc' := 2) rfl rfl ?_
        refine L_s (pc' := 3) rfl rfl ?_
        refine L_bi (pc' := 5) rfl q2_12 rfl ?_
        refine L_bf (c := (12 : Int32) < 4) (t := 29) (n := 8) rfl rfl (by decide) ?_
        refine L_s (pc' := 9) rfl rfl ?_
        refine L_s (pc' := 10) rfl rfl ?_
        refine L_s (pc' := 11) rfl rfl ?_
        refine L_s (pc' := 12) rfl rfl ?_
        refine L_kr (pc' := 15) (as := [.int 4]) (rest := [.int v2, .int v1, .ref 32]) rfl rfl ((e_tokens_textOf_k4 (by omega) _) (1013) rfl) rfl ?_
        refine L_ci (pc' := 18) (as := [.ref 32, .int v1, .int v2, .ref 1013]) (rest := []) rfl rfl (e_tokens_isWord_c3 (by omega) _ _ _) rfl fun x8 => ?_
        refine L_br (t := 23) (n := 21) rfl rfl (fun _ => ?_) (fun _ => ?_)
        · refine L_ii (pc' := 26) (L' := [some (.ref 32), some (.int v1), some (.int v2), some (.int 5)]) rfl rfl q1_1 (by decide : (4 : Int32) + 1 = 5) rfl rfl ?_
          refine L_s (pc' := 2) rfl rfl ?_
          refine L_s (pc' := 3) rfl rfl ?_
          refine L_bi (pc' := 5) rfl q2_12 rfl ?_
          refine L_bf (c := (12 : Int32) < 5) (t := 29) (n := 8) rfl rfl (by decide) ?_
          refine L_s (pc' := 9) rfl rfl ?_
          refine L_s (pc' := 10) rfl rfl ?_
          refine L_s (pc' := 11) rfl rfl ?_
          refine L_s (pc' := 12) rfl rfl ?_
          refine L_kr (pc' := 15) (as := [.int 5]) (rest := [.int v2, .int v1, .ref 32]) rfl rfl ((e_tokens_textOf_k5 (by omega) _) (1014) rfl) rfl ?_
          refine L_ci (pc' := 18) (as := [.ref 32, .int v1, .int v2, .ref 1014]) (rest := []) rfl rfl (e_tokens_isWord_c4 (by omega) _ _ _) rfl fun x10 => ?_
          refine L_br (t := 23) (n := 21) rfl rfl (fun _ => ?_) (fun _ => ?_)
          · refine L_ii (pc' := 26) (L' := [some (.ref 32), some (.int v1), some (.int v2), some (.int 6)]) rfl rfl q1_1 (by decide : (5 : Int32) + 1 = 6) rfl rfl ?_
            refine L_s (pc' := 2) rfl rfl ?_
            refine L_s (pc' := 3) rfl rfl ?_
            refine L_bi (pc' := 5) rfl q2_12 rfl ?_
            refine L_bf (c := (12 : Int32) < 6) (t := 29) (n := 8) rfl rfl (by decide) ?_
            refine L_s (pc' := 9) rfl rfl ?_
            refine L_s (pc' := 10) rfl rfl ?_
            refine L_s (pc' := 11) rfl rfl ?_
            refine L_s (pc' := 12) rfl rfl ?_
            refine L_kr (pc' := 15) (as := [.int 6]) (rest := [.int v2, .int v1, .ref 32]) rfl rfl ((e_tokens_textOf_k6 (by omega) _) (1015) rfl) rfl ?_
            refine L_ci (pc' := 18) (as := [.ref 32, .int v1, .int v2, .ref 1015]) (rest := []) rfl rfl (e_tokens_isWord_c5 (by omega) _ _ _) rfl fun x12 => ?_
            refine L_br (t := 23) (n := 21) rfl rfl (fun _ => ?_) (fun _ => ?_)
            · refine L_ii (pc' := 26) (L' := [some (.ref 32), some (.int v1), some (.int v2), some (.int 7)]) rfl rfl q1_1 (by decide : (6 : Int32) + 1 = 7) rfl rfl ?_
              refine L_s (pc' := 2) rfl rfl ?_
              refine L_s (pc' := 3) rfl rfl ?_
              refine L_bi (pc' := 5) rfl q2_12 rfl ?_
              refine L_bf (c := (12 : Int32) < 7) (t := 29) (n := 8) rfl rfl (by decide) ?_
              refine L_s (pc' := 9) rfl rfl ?_
              refine L_s (pc' := 10) rfl rfl ?_
              refine L_s (pc' := 11) rfl rfl ?_
              refine L_s (pc' := 12) rfl rfl ?_
              refine L_kr (pc' := 15) (as := [.int 7]) (rest := [.int v2, .int v1, .ref 32]) rfl rfl ((e_tokens_textOf_k7 (by omega) _) (1016) rfl) rfl ?_
              refine L_ci (pc' := 18) (as := [.ref 32, .int v1, .int v2, .ref 1016]) (rest := []) rfl rfl (e_tokens_isWord_c6 (by omega) _ _ _) rfl fun x14 => ?_
              refine L_br (t := 23) (n := 21) rfl rfl (fun _ => ?_) (fun _ => ?_)
              · refine L_ii (pc' := 26) (L' := [some (.ref 32), some (.int v1), some (.int v2), some (.int 8)]) rfl rfl q1_1 (by decide : (7 : Int32) + 1 = 8) rfl rfl ?_
                refine L_s (pc' := 2) rfl rfl ?_
                refine L_s (pc' := 3) rfl rfl ?_
                refine L_bi (pc' := 5) rfl q2_12 rfl ?_
                refine L_bf (c := (12 : Int32) < 8) (t := 29) (n := 8) rfl rfl (by decide) ?_
                refine L_s (pc' := 9) rfl rfl ?_
                refine L_s (pc' := 10) rfl rfl ?_
                refine L_s (pc' := 11) rfl rfl ?_
                refine L_s (pc' := 12) rfl rfl ?_
                refine L_kr (pc' := 15) (as := [.int 8]) (rest := [.int v2, .int v1, .ref 32]) rfl rfl ((e_tokens_textOf_k8 (by omega) _) (1017) rfl) rfl ?_
                refine L_ci (pc' := 18) (as := [.ref 32, .int v1, .int v2, .ref 1017]) (rest := []) rfl rfl (e_tokens_isWord_c7 (by omega) _ _ _) rfl fun x16 => ?_
                refine L_br (t := 23) (n := 21) rfl rfl (fun _ => ?_) (fun _ => ?_)
                · refine L_ii (pc' := 26) (L' := [some (.ref 32), some (.int v1), some (.int v2), some (.int 9)]) rfl rfl q1_1 (by decide : (8 : Int32) + 1 = 9) rfl rfl ?_
                  refine L_s (pc' := 2) rfl rfl ?_
                  refine L_s (pc' := 3) rfl rfl ?_
                  refine L_bi (pc' := 5) rfl q2_12 rfl ?_
                  refine L_bf (c := (12 : Int32) < 9) (t := 29) (n := 8) rfl rfl (by decide) ?_
                  refine L_s (pc' := 9) rfl rfl ?_
                  refine L_s (pc' := 10) rfl rfl ?_
                  refine L_s (pc' := 11) rfl rfl ?_
                  refine L_s (pc' := 12) rfl rfl ?_
                  refine L_kr (pc' := 15) (as := [.int 9]) (rest := [.int v2, .int v1, .ref 32]) rfl rfl ((e_tokens_textOf_k9 (by omega) _) (1018) rfl) rfl ?_
                  refine L_ci (pc' := 18) (as := [.ref 32, .int v1, .int v2, .ref 1018]) (rest := []) rfl rfl (e_tokens_isWord_c8 (by omega) _ _ _) rfl fun x18 => ?_
                  refine L_br (t := 23) (n := 21) rfl rfl (fun _ => ?_) (fun _ => ?_)
                  · refine L_ii (pc' := 26) (L' := [some (.ref 32), some (.int v1), some (.int v2), some (.int 10)]) rfl rfl q1_1 (by decide : (9 : Int32) + 1 = 10) rfl rfl ?_
                    refine L_s (pc' := 2) rfl rfl ?_
                    refine L_s (pc' := 3) rfl rfl ?_
                    refine L_bi (pc' := 5) rfl q2_12 rfl ?_
                    refine L_bf (c := (12 : Int32) < 10) (t := 29) (n := 8) rfl rfl (by decide) ?_
                    refine L_s (pc' := 9) rfl rfl ?_
                    refine L_s (pc' := 10) rfl rfl ?_
                    refine L_s (pc' := 11) rfl rfl ?_
                    refine L_s (pc' := 12) rfl rfl ?_
                    refine L_kr (pc' := 15) (as := [.int 10]) (rest := [.int v2, .int v1, .ref 32]) rfl rfl ((e_tokens_textOf_k10 (by omega) _) (1019) rfl) rfl ?_
                    refine L_ci (pc' := 18) (as := [.ref 32, .int v1, .int v2, .ref 1019]) (rest := []) rfl rfl (e_tokens_isWord_c9 (by omega) _ _ _) rfl fun x20 => ?_
                    refine L_br (t := 23) (n := 21) rfl rfl (fun _ => ?_) (fun _ => ?_)
                    · refine L_ii (pc' := 26) (L' := [some (.ref 32), some (.int v1), some (.int v2), some (.int 11)]) rfl rfl q1_1 (by decide : (10 : Int32) + 1 = 11) rfl rfl ?_
                      refine L_s (pc' := 2) rfl rfl ?_
                      refine L_s (pc' := 3) rfl rfl ?_
                      refine L_bi (pc' := 5) rfl q2_12 rfl ?_
                      refine L_bf (c := (12 : Int32) < 11) (t := 29) (n := 8) rfl rfl (by decide) ?_
                      refine L_s (pc' := 9) rfl rfl ?_
                      refine L_s (pc' := 10) rfl rfl ?_
                      refine L_s (pc' := 11) rfl rfl ?_
                      refine L_s (pc' := 12) rfl rfl ?_
                      refine L_kr (pc' := 15) (as := [.int 11]) (rest := [.int v2, .int v1, .ref 32]) rfl rfl ((e_tokens_textOf_k11 (by omega) _) (1020) rfl) rfl ?_
                      refine L_ci (pc' := 18) (as := [.ref 32, .int v1, .int v2, .ref 1020]) (rest := []) rfl rfl (e_tokens_isWord_c10 (by omega) _ _ _) rfl fun x22 => ?_
                      refine L_br (t := 23) (n := 21) rfl rfl (fun _ => ?_) (fun _ => ?_)
                      · refine L_ii (pc' := 26) (L' := [some (.ref 32), some (.int v1), some (.int v2), some (.int 12)]) rfl rfl q1_1 (by decide : (11 : Int32) + 1 = 12) rfl rfl ?_
                        refine L_s (pc' := 2) rfl rfl ?_
                        refine L_s (pc' := 3) rfl rfl ?_
                        refine L_bi (pc' := 5) rfl q2_12 rfl ?_
                        refine L_bf (c := (12 : Int32) < 12) (t := 29) (n := 8) rfl rfl (by decide) ?_
                        refine L_s (pc' := 9) rfl rfl ?_
                        refine L_s (pc' := 10) rfl rfl ?_
                        refine L_s (pc' := 11) rfl rfl ?_
                        refine L_s (pc' := 12) rfl rfl ?_
                        refine L_kr (pc' := 15) (as := [.int 12]) (rest := [.int v2, .int v1, .ref 32]) rfl rfl ((e_tokens_textOf_k12 (by omega) _) (1021) rfl) rfl ?_
                        refine L_ci (pc' := 18) (as := [.ref 32, .int v1, .int v2, .ref 1021]) (rest := []) rfl rfl (e_tokens_isWord_c11 (by omega) _ _ _) rfl fun x24 => ?_
                        refine L_br (t := 23) (n := 21) rfl rfl (fun _ => ?_) (fun _ => ?_)
                        · refine L_ii (pc' := 26) (L' := [some (.ref 32), some (.int v1), some (.int v2), some (.int 13)]) rfl rfl q1_1 (by decide : (12 : Int32) + 1 = 13) rfl rfl ?_
                          refine L_s (pc' := 2) rfl rfl ?_
                          refine L_s (pc' := 3) rfl rfl ?_
                          refine L_bi (pc' := 5) rfl q2_12 rfl ?_
                          refine L_bt (c := (12 : Int32) < 13) (t := 29) (n := 8) rfl rfl (by decide) ?_
                          refine L_ic (pc' := 30) rfl q1_0 rfl ?_
                          exact L_ret rfl ret_i rfl
                        · refine L_s (pc' := 22) rfl rfl ?_
                          exact L_ret rfl ret_i rfl
                      · refine L_s (pc' := 22) rfl rfl ?_
                        exact L_ret rfl ret_i rfl
                    · refine L_s (pc' := 22) rfl rfl ?_
                      exact L_ret rfl ret_i rfl
                  · refine L_s (pc' := 22) rfl rfl ?_
                    exact L_ret rfl ret_i rfl
                · refine L_s (pc' := 22) rfl rfl ?_
                  exact L_ret rfl ret_i rfl
              · refine L_s (pc' := 22) rfl rfl ?_
                exact L_ret rfl ret_i rfl
            · refine L_s (pc' := 22) rfl rfl ?_
              exact L_ret rfl ret_i rfl
          · refine L_s (pc' := 22) rfl rfl ?_
            exact L_ret rfl ret_i rfl
        · refine L_s (pc' := 22) rfl rfl ?_
          exact L_ret rfl ret_i rfl
      · refine L_s (pc' := 22) rfl rfl ?_
        exact L_ret rfl ret_i rfl
    · refine L_s (pc' := 22) rfl rfl ?_
      exact L_ret rfl ret_i rfl
  · refine L_s (pc' := 22) rfl rfl ?_
    exact L_ret rfl ret_i rfl
def reader_takeWord_33  (g : Sg) : Option (Sg) :=
  Option.bind (tokens_wordOf (g 191 5) (g 191 4) g) (fun x1 => lt1 (up2 g 191 6 x1) (fun g2 => (some g2)))
def reader_takeWord_0 : Nat → Int32 → Sg → Option (Sg)
  | 0, _, _ => none
  | n + 1, v2, g =>
    (if v2 ≤ (g 191 4) then
      (reader_takeWord_33 g)
    else
      (if inb (g 191 4) 500 = true then Option.bind (tokens_isLetter (g 32 (Int32.toNatClampNeg (g 191 4))) g) (fun x1 => (if x1 = 0 then
        (reader_takeWord_33 g)
      else
        lt1 (up2 g 191 4 ((g 191 4) + 1)) (fun g2 => (reader_takeWord_0 n v2 g2)))) else none))
def reader_takeWord (F : Nat) (v2 : Int32) (g : Sg) : Option (Sg) :=
  (reader_takeWord_0 F v2 g)
theorem p_reader_takeWord_33 {X : Xx} {d : Nat} (hd : 6 ≤ d)  (g : Sg) : Lt X d none k_46 (fun r : Sg => ((none, (SHF, r)) : Out)) 33 [some (.ref 191), some (.ref 32), none] [] g (reader_takeWord_33 g) := by
  unfold reader_takeWord_33
  refine L_s (pc' := 34) rfl rfl ?_
  refine L_s (pc' := 35) rfl rfl ?_
  refine L_s (pc' := 36) rfl rfl ?_
  refine L_gf (pc' := 39) rfl fi_191_5 rfl ?_
  refine L_s (pc' := 40) rfl rfl ?_
  refine L_gf (pc' := 43) rfl fi_191_4 rfl ?_
  refine L_ci (pc' := 46) (as := [.ref 32, .int (g 191 5), .int (g 191 4)]) (rest := [.ref 191]) rfl rfl (e_tokens_wordOf (by omega) _ _ _) rfl fun x1 => ?_
  refine L_pf (pc' := 49) rfl sh_191 (by decide) rfl rfl ?_
  refine L_let fun g2 _ => ?_
  exact L_ret rfl rfl rfl
theorem p_reader_takeWord_0 {X : Xx} {d : Nat} (hd : 6 ≤ d) : ∀ (n : Nat) (v2 : Int32) (g : Sg), Lt X d none k_46 (fun r : Sg => ((none, (SHF, r)) : Out)) 0 [some (.ref 191), some (.ref 32), some (.int v2)] [] g (reader_takeWord_0 n v2 g) := by
  intro n
  induction n with
  | zero => intros; exact L_none
  | succ n ih =>
    intro v2 g
    show Lt X d none k_46 (fun r : Sg => ((none, (SHF, r)) : Out)) 0 [some (.ref 191), some (.ref 32), some (.int v2)] [] g (
      (if v2 ≤ (g 191 4) then
        (reader_takeWord_33 g)
      else
        (if inb (g 191 4) 500 = true then Option.bind (tokens_isLetter (g 32 (Int32.toNatClampNeg (g 191 4))) g) (fun x1 => (if x1 = 0 then
          (reader_takeWord_33 g)
        else
          lt1 (up2 g 191 4 ((g 191 4) + 1)) (fun g2 => (reader_takeWord_0 n v2 g2)))) else none)))
    refine L_s (pc' := 1) rfl rfl ?_
    refine L_gf (pc' := 4) rfl fi_191_4 rfl ?_
    refine L_s (pc' := 5) rfl rfl ?_
    refine L_br (t := 33) (n := 8) rfl rfl (fun _ => ?_) (fun _ => ?_)
    · refine L_wk (L' := [some (.ref 191), some (.ref 32), none]) (wk_s (wk_s (wk_n wk_nil))) ?_
      exact p_reader_takeWord_33 hd _
    · refine L_s (pc' := 9) rfl rfl ?_
      refine L_s (pc' := 10) rfl rfl ?_
      refine L_gf (pc' := 13) rfl fi_191_4 rfl ?_
      refine L_rB (pc' := 14) rfl sh_32 (by decide) (by decide) rfl ?_
      refine L_ci (pc' := 17) (as := [.int (g 32 (Int32.toNatClampNeg (g 191 4)))]) (rest := []) rfl rfl (e_tokens_isLetter (by omega) _ _) rfl fun x1 => ?_
      refine L_br (t := 33) (n := 20) rfl rfl (fun _ => ?_) (fun _ => ?_)
      · refine L_wk (L' := [some (.ref 191), some (.ref 32), none]) (wk_s (wk_s (wk_n wk_nil))) ?_
        exact p_reader_takeWord_33 hd _
      · refine L_s (pc' := 21) rfl rfl ?_
        refine L_s (pc' := 22) rfl rfl ?_
        refine L_gf (pc' := 25) rfl fi_191_4 rfl ?_
        refine L_ic (pc' := 26) rfl q1_1 rfl ?_
        refine L_s (pc' := 27) rfl rfl ?_
        refine L_pf (pc' := 30) rfl sh_191 (by decide) rfl rfl ?_
        refine L_let fun g2 _ => ?_
        refine L_s (pc' := 0) rfl rfl ?_
        exact ih _ _
theorem e_reader_takeWord {X : Xx} {d : Nat} (hd : 7 ≤ d) (F : Nat) (v2 : Int32) (g : Sg) : ∀ r, reader_takeWord F v2 g = some r → EvM zft mtl X d 46 [.ref 191, .ref 32, .int v2] (SHF, g) ((fun r : Sg => ((none, (SHF, r)) : Out)) r) := by
  obtain ⟨d, rfl⟩ : ∃ d0, d = d0 + 1 := ⟨d - 1, by omega⟩
  have hd : 6 ≤ d := by omega
  refine E_in (f := (fun r : Sg => ((none, (SHF, r)) : Out))) rfl (Nat.le_of_ble_eq_true rfl) ?_
  unfold reader_takeWord
  change Lt X d none k_46 _ 0 [some (.ref 191), some (.ref 32), some (.int v2)] [] g _
  exact p_reader_takeWord_0 hd F _ _
def tokens_isBlank (v0 : Int32) (g : Sg) : Option (Int32) :=
  (if v0 = 10 then
    (some 1)
  else
    (if ¬ v0 = 32 then
      (some 0)
    else
      (some 1)))
theorem e_tokens_isBlank {X : Xx} {d : Nat} (hd : 1 ≤ d) (v0 : Int32) (g : Sg) : ∀ r, tokens_isBlank v0 g = some r → EvM zft mtl X d 78 [.int v0] (SHF, g) ((fun r : Int32 => ((some (.int r), (SHF, g)) : Out)) r) := by
  obtain ⟨d, rfl⟩ : ∃ d0, d = d0 + 1 := ⟨d - 1, by omega⟩
  have hd : 0 ≤ d := by omega
  refine E_in (f := (fun r : Int32 => ((some (.int r), (SHF, g)) : Out))) rfl (Nat.le_of_ble_eq_true rfl) ?_
  unfold tokens_isBlank
  change Lt X d (some .boolean) k_78 _ 0 [some (.int v0)] [] g _
  refine L_s (pc' := 1) rfl rfl ?_
  refine L_bi (pc' := 3) rfl q2_10 rfl ?_
  refine L_br (t := 12) (n := 6) rfl rfl (fun _ => ?_) (fun _ => ?_)
  · refine L_ic (pc' := 13) rfl q1_1 rfl ?_
    refine L_s (pc' := 17) rfl rfl ?_
    exact L_ret rfl (ret_z (by decide)) rfl
  · refine L_s (pc' := 7) rfl rfl ?_
    refine L_bi (pc' := 9) rfl q2_32 rfl ?_
    refine L_br (t := 16) (n := 12) rfl rfl (fun _ => ?_) (fun _ => ?_)
    · refine L_ic (pc' := 17) rfl q1_0 rfl ?_
      exact L_ret rfl (ret_z (by decide)) rfl
    · refine L_ic (pc' := 13) rfl q1_1 rfl ?_
      refine L_s (pc' := 17) rfl rfl ?_
      exact L_ret rfl (ret_z (by decide)) rfl
def reader_nextToken_33 (F : Nat) (v2 : Int32) (g : Sg) : Option (Sg) :=
  lt1 (up2 g 191 5 (g 191 4)) (fun g1 => (if (g1 191 4) < v2 then
    (if inb (g1 191 4) 500 = true then Option.bind (tokens_isLetter (g1 32 (Int32.toNatClampNeg (g1 191 4))) g1) (fun x2 => (if x2 = 0 then
      (if inb (g1 191 4) 500 = true then Option.bind (tokens_isDigit (g1 32 (Int32.toNatClampNeg (g1 191 4))) g1) (fun x3 => (if x3 = 0 then
        (if inb (g1 191 4) 500 = true then Option.bind (tokens_signOf (g1 32 (Int32.toNatClampNeg (g1 191 4))) g1) (fun x4 => lt1 (up2 g1 191 6 x4) (fun g5 => lt1 (up2 g5 191 4 ((g5 191 4) + 1)) (fun g6 => (some g6)))) else none)
      else
        Option.bind (reader_takeNumber F v2 g1) (fun g7 => (some g7)))) else none)
    else
      Option.bind (reader_takeWord F v2 g1) (fun g8 => (some g8)))) else none)
  else
    lt1 (up2 g1 191 6 19) (fun g9 => (some g9))))
def reader_nextToken_0 (F : Nat) : Nat → Int32 → Sg → Option (Sg)
  | 0, _, _ => none
  | n + 1, v2, g =>
    (if v2 ≤ (g 191 4) then
      (reader_nextToken_33 F v2 g)
    else
      (if inb (g 191 4) 500 = true then Option.bind (tokens_isBlank (g 32 (Int32.toNatClampNeg (g 191 4))) g) (fun x1 => (if x1 = 0 then
        (reader_nextToken_33 F v2 g)
      else
        lt1 (up2 g 191 4 ((g 191 4) + 1)) (fun g2 => (reader_nextToken_0 F n v2 g2)))) else none))
def reader_nextToken (F : Nat) (v2 : Int32) (g : Sg) : Option (Sg) :=
  (reader_nextToken_0 F F v2 g)
theorem p_reader_nextToken_33 {X : Xx} {d : Nat} (hd : 7 ≤ d) (F : Nat) (v2 : Int32) (g : Sg) : Lt X d none k_45 (fun r : Sg => ((none, (SHF, r)) : Out)) 33 [some (.ref 191), some (.ref 32), some (.int v2)] [] g (reader_nextToken_33 F v2 g) := by
  unfold reader_nextToken_33
  refine L_s (pc' := 34) rfl rfl ?_
  refine L_s (pc' := 35) rfl rfl ?_
  refine L_gf (pc' := 38) rfl fi_191_4 rfl ?_
  refine L_pf (pc' := 41) rfl sh_191 (by decide) rfl rfl ?_
  refine L_let fun g1 _ => ?_
  refine L_s (pc' := 42) rfl rfl ?_
  refine L_gf (pc' := 45) rfl fi_191_4 rfl ?_
  refine L_s (pc' := 46) rfl rfl ?_
  refine L_br (t := 58) (n := 49) rfl rfl (fun _ => ?_) (fun _ => ?_)
  · refine L_s (pc' := 59) rfl rfl ?_
    refine L_s (pc' := 60) rfl rfl ?_
    refine L_gf (pc' := 63) rfl fi_191_4 rfl ?_
    refine L_rB (pc' := 64) rfl sh_32 (by decide) (by decide) rfl ?_
    refine L_ci (pc' := 67) (as := [.int (g1 32 (Int32.toNatClampNeg (g1 191 4)))]) (rest := []) rfl rfl (e_tokens_isLetter (by omega) _ _) rfl fun x2 => ?_
    refine L_br (t := 79) (n := 70) rfl rfl (fun _ => ?_) (fun _ => ?_)
    · refine L_s (pc' := 80) rfl rfl ?_
      refine L_s (pc' := 81) rfl rfl ?_
      refine L_gf (pc' := 84) rfl fi_191_4 rfl ?_
      refine L_rB (pc' := 85) rfl sh_32 (by decide) (by decide) rfl ?_
      refine L_ci (pc' := 88) (as := [.int (g1 32 (Int32.toNatClampNeg (g1 191 4)))]) (rest := []) rfl rfl (e_tokens_isDigit (by omega) _ _) rfl fun x3 => ?_
      refine L_br (t := 100) (n := 91) rfl rfl (fun _ => ?_) (fun _ => ?_)
      · refine L_s (pc' := 101) rfl rfl ?_
        refine L_s (pc' := 102) rfl rfl ?_
        refine L_s (pc' := 103) rfl rfl ?_
        refine L_gf (pc' := 106) rfl fi_191_4 rfl ?_
        refine L_rB (pc' := 107) rfl sh_32 (by decide) (by decide) rfl ?_
        refine L_ci (pc' := 110) (as := [.int (g1 32 (Int32.toNatClampNeg (g1 191 4)))]) (rest := [.ref 191]) rfl rfl (e_tokens_signOf (by omega) _ _) rfl fun x4 => ?_
        refine L_pf (pc' := 113) rfl sh_191 (by decide) rfl rfl ?_
        refine L_let fun g5 _ => ?_
        refine L_s (pc' := 114) rfl rfl ?_
        refine L_s (pc' := 115) rfl rfl ?_
        refine L_gf (pc' := 118) rfl fi_191_4 rfl ?_
        refine L_ic (pc' := 119) rfl q1_1 rfl ?_
        refine L_s (pc' := 120) rfl rfl ?_
        refine L_pf (pc' := 123) rfl sh_191 (by decide) rfl rfl ?_
        refine L_let fun g6 _ => ?_
        exact L_ret rfl rfl rfl
      · refine L_s (pc' := 92) rfl rfl ?_
        refine L_s (pc' := 93) rfl rfl ?_
        refine L_s (pc' := 94) rfl rfl ?_
        refine L_cv (pc' := 97) (as := [.ref 191, .ref 32, .int v2]) (rest := []) rfl rfl (e_reader_takeNumber (by omega) F _ _) rfl fun g7 => ?_
        refine L_s (pc' := 123) rfl rfl ?_
        exact L_ret rfl rfl rfl
    · refine L_s (pc' := 71) rfl rfl ?_
      refine L_s (pc' := 72) rfl rfl ?_
      refine L_s (pc' := 73) rfl rfl ?_
      refine L_cv (pc' := 76) (as := [.ref 191, .ref 32, .int v2]) (rest := []) rfl rfl (e_reader_takeWord (by omega) F _ _) rfl fun g8 => ?_
      refine L_s (pc' := 123) rfl rfl ?_
      exact L_ret rfl rfl rfl
  · refine L_s (pc' := 50) rfl rfl ?_
    refine L_bi (pc' := 52) rfl q2_19 rfl ?_
    refine L_pf (pc' := 55) rfl sh_191 (by decide) rfl rfl ?_
    refine L_let fun g9 _ => ?_
    refine L_s (pc' := 123) rfl rfl ?_
    exact L_ret rfl rfl rfl
theorem p_reader_nextToken_0 {X : Xx} {d : Nat} (hd : 7 ≤ d) (F : Nat) : ∀ (n : Nat) (v2 : Int32) (g : Sg), Lt X d none k_45 (fun r : Sg => ((none, (SHF, r)) : Out)) 0 [some (.ref 191), some (.ref 32), some (.int v2)] [] g (reader_nextToken_0 F n v2 g) := by
  intro n
  induction n with
  | zero => intros; exact L_none
  | succ n ih =>
    intro v2 g
    show Lt X d none k_45 (fun r : Sg => ((none, (SHF, r)) : Out)) 0 [some (.ref 191), some (.ref 32), some (.int v2)] [] g (
      (if v2 ≤ (g 191 4) then
        (reader_nextToken_33 F v2 g)
      else
        (if inb (g 191 4) 500 = true then Option.bind (tokens_isBlank (g 32 (Int32.toNatClampNeg (g 191 4))) g) (fun x1 => (if x1 = 0 then
          (reader_nextToken_33 F v2 g)
        else
          lt1 (up2 g 191 4 ((g 191 4) + 1)) (fun g2 => (reader_nextToken_0 F n v2 g2)))) else none)))
    refine L_s (pc' := 1) rfl rfl ?_
    refine L_gf (pc' := 4) rfl fi_191_4 rfl ?_
    refine L_s (pc' := 5) rfl rfl ?_
    refine L_br (t := 33) (n := 8) rfl rfl (fun _ => ?_) (fun _ => ?_)
    · exact p_reader_nextToken_33 hd F _ _
    · refine L_s (pc' := 9) rfl rfl ?_
      refine L_s (pc' := 10) rfl rfl ?_
      refine L_gf (pc' := 13) rfl fi_191_4 rfl ?_
      refine L_rB (pc' := 14) rfl sh_32 (by decide) (by decide) rfl ?_
      refine L_ci (pc' := 17) (as := [.int (g 32 (Int32.toNatClampNeg (g 191 4)))]) (rest := []) rfl rfl (e_tokens_isBlank (by omega) _ _) rfl fun x1 => ?_
      refine L_br (t := 33) (n := 20) rfl rfl (fun _ => ?_) (fun _ => ?_)
      · exact p_reader_nextToken_33 hd F _ _
      · refine L_s (pc' := 21) rfl rfl ?_
        refine L_s (pc' := 22) rfl rfl ?_
        refine L_gf (pc' := 25) rfl fi_191_4 rfl ?_
        refine L_ic (pc' := 26) rfl q1_1 rfl ?_
        refine L_s (pc' := 27) rfl rfl ?_
        refine L_pf (pc' := 30) rfl sh_191 (by decide) rfl rfl ?_
        refine L_let fun g2 _ => ?_
        refine L_s (pc' := 0) rfl rfl ?_
        exact ih _ _
theorem e_reader_nextToken {X : Xx} {d : Nat} (hd : 8 ≤ d) (F : Nat) (v2 : Int32) (g : Sg) : ∀ r, reader_nextToken F v2 g = some r → EvM zft mtl X d 45 [.ref 191, .ref 32, .int v2] (SHF, g) ((fun r : Sg => ((none, (SHF, r)) : Out)) r) := by
  obtain ⟨d, rfl⟩ : ∃ d0, d = d0 + 1 := ⟨d - 1, by omega⟩
  have hd : 7 ≤ d := by omega
  refine E_in (f := (fun r : Sg => ((none, (SHF, r)) : Out))) rfl (Nat.le_of_ble_eq_true rfl) ?_
  unfold reader_nextToken
  change Lt X d none k_45 _ 0 [some (.ref 191), some (.ref 32), some (.int v2)] [] g _
  exact p_reader_nextToken_0 hd F F _ _
def reader_noteFault (v1 : Int32) (g : Sg) : Option (Sg) :=
  (if ¬ (g 191 1) = 0 then
    (some g)
  else
    lt1 (up2 g 191 1 v1) (fun g1 => lt1 (up2 g1 191 2 (g1 191 5)) (fun g2 => (some g2))))
theorem e_reader_noteFault {X : Xx} {d : Nat} (hd : 1 ≤ d) (v1 : Int32) (g : Sg) : ∀ r, reader_noteFault v1 g = some r → EvM zft mtl X d 58 [.ref 191, .int v1] (SHF, g) ((fun r : Sg => ((none, (SHF, r)) : Out)) r) := by
  obtain ⟨d, rfl⟩ : ∃ d0, d = d0 + 1 := ⟨d - 1, by omega⟩
  have hd : 0 ≤ d := by omega
  refine E_in (f := (fun r : Sg => ((none, (SHF, r)) : Out))) rfl (Nat.le_of_ble_eq_true rfl) ?_
  unfold reader_noteFault
  change Lt X d none k_58 _ 0 [some (.ref 191), some (.int v1)] [] g _
  refine L_s (pc' := 1) rfl rfl ?_
  refine L_gf (pc' := 4) rfl fi_191_1 rfl ?_
  refine L_br (t := 20) (n := 7) rfl rfl (fun _ => ?_) (fun _ => ?_)
  · exact L_ret rfl rfl rfl
  · refine L_s (pc' := 8) rfl rfl ?_
    refine L_s (pc' := 9) rfl rfl ?_
    refine L_pf (pc' := 12) rfl sh_191 (by decide) rfl rfl ?_
    refine L_let fun g1 _ => ?_
    refine L_s (pc' := 13) rfl rfl ?_
    refine L_s (pc' := 14) rfl rfl ?_
    refine L_gf (pc' := 17) rfl fi_191_5 rfl ?_
    refine L_pf (pc' := 20) rfl sh_191 (by decide) rfl rfl ?_
    refine L_let fun g2 _ => ?_
    exact L_ret rfl rfl rfl
def reader_takeAct_60 (s0 : Int32) (g : Sg) : Option (Int32 × Sg) :=
  lt1 (up2 g 191 3 s0) (fun g1 => (if (g1 191 6) = 4 then
    (some (1, g1))
  else
    (if (g1 191 6) = 5 then
      (some (1, g1))
    else
      (if ¬ (g1 191 6) = 6 then
        (some (0, g1))
      else
        (some (1, g1))))))
def reader_takeAct_43  (g : Sg) : Option (Int32 × Sg) :=
  (if ¬ (g 191 6) = 6 then
    (reader_takeAct_60 7 g)
  else
    (reader_takeAct_60 8 g))
def reader_takeAct  (g : Sg) : Option (Int32 × Sg) :=
  lt1 (((g 192 0) - 1) : Int32) (fun x1 => Option.bind (x_within x1 0 15 g) (fun x2 => (if x2 = 0 then
    (reader_takeAct_43 g)
  else
    (if inb x1 16 = true then lt1 (up2 g 193 (Int32.toNatClampNeg x1) (g 191 6)) (fun g3 => (if inb x1 16 = true then lt1 (up2 g3 194 (Int32.toNatClampNeg x1) 0) (fun g4 => (reader_takeAct_43 g4)) else none)) else none))))
theorem p_reader_takeAct_60 {X : Xx} {d : Nat} (hd : 1 ≤ d) (s0 : Int32) (g : Sg) : Lt X d (some .boolean) k_55 (fun r : Int32 × Sg => ((some (.int r.1), (SHF, r.2)) : Out)) 60 [some (.ref 191), none] [.int s0, .ref 191] g (reader_takeAct_60 s0 g) := by
  unfold reader_takeAct_60
  refine L_pf (pc' := 63) rfl sh_191 (by decide) rfl rfl ?_
  refine L_let fun g1 _ => ?_
  refine L_s (pc' := 64) rfl rfl ?_
  refine L_gf (pc' := 67) rfl fi_191_6 rfl ?_
  refine L_ic (pc' := 68) rfl q1_4 rfl ?_
  refine L_br (t := 88) (n := 71) rfl rfl (fun _ => ?_) (fun _ => ?_)
  · refine L_ic (pc' := 89) rfl q1_1 rfl ?_
    refine L_s (pc' := 93) rfl rfl ?_
    exact L_ret rfl (ret_z (by decide)) rfl
  · refine L_s (pc' := 72) rfl rfl ?_
    refine L_gf (pc' := 75) rfl fi_191_6 rfl ?_
    refine L_ic (pc' := 76) rfl q1_5 rfl ?_
    refine L_br (t := 88) (n := 79) rfl rfl (fun _ => ?_) (fun _ => ?_)
    · refine L_ic (pc' := 89) rfl q1_1 rfl ?_
      refine L_s (pc' := 93) rfl rfl ?_
      exact L_ret rfl (ret_z (by decide)) rfl
    · refine L_s (pc' := 80) rfl rfl ?_
      refine L_gf (pc' := 83) rfl fi_191_6 rfl ?_
      refine L_bi (pc' := 85) rfl q2_6 rfl ?_
      refine L_br (t := 92) (n := 88) rfl rfl (fun _ => ?_) (fun _ => ?_)
      · refine L_ic (pc' := 93) rfl q1_0 rfl ?_
        exact L_ret rfl (ret_z (by decide)) rfl
      · refine L_ic (pc' := 89) rfl q1_1 rfl ?_
        refine L_s (pc' := 93) rfl rfl ?_
        exact L_ret rfl (ret_z (by decide)) rfl
theorem p_reader_takeAct_43 {X : Xx} {d : Nat} (hd : 1 ≤ d)  (g : Sg) : Lt X d (some .boolean) k_55 (fun r : Int32 × Sg => ((some (.int r.1), (SHF, r.2)) : Out)) 43 [some (.ref 191), none] [] g (reader_takeAct_43 g) := by
  unfold reader_takeAct_43
  refine L_s (pc' := 44) rfl rfl ?_
  refine L_s (pc' := 45) rfl rfl ?_
  refine L_gf (pc' := 48) rfl fi_191_6 rfl ?_
  refine L_bi (pc' := 50) rfl q2_6 rfl ?_
  refine L_br (t := 58) (n := 53) rfl rfl (fun _ => ?_) (fun _ => ?_)
  · refine L_bi (pc' := 60) rfl q2_7 rfl ?_
    exact p_reader_takeAct_60 hd _ _
  · refine L_bi (pc' := 55) rfl q2_8 rfl ?_
    refine L_s (pc' := 60) rfl rfl ?_
    exact p_reader_takeAct_60 hd _ _
theorem e_reader_takeAct {X : Xx} {d : Nat} (hd : 2 ≤ d)  (g : Sg) : ∀ r, reader_takeAct  g = some r → EvM zft mtl X d 55 [.ref 191] (SHF, g) ((fun r : Int32 × Sg => ((some (.int r.1), (SHF, r.2)) : Out)) r) := by
  obtain ⟨d, rfl⟩ : ∃ d0, d = d0 + 1 := ⟨d - 1, by omega⟩
  have hd : 1 ≤ d := by omega
  refine E_in (f := (fun r : Int32 × Sg => ((some (.int r.1), (SHF, r.2)) : Out))) rfl (Nat.le_of_ble_eq_true rfl) ?_
  unfold reader_takeAct
  change Lt X d (some .boolean) k_55 _ 0 [some (.ref 191), none] [] g _
  refine L_s (pc' := 1) rfl rfl ?_
  refine L_gf (pc' := 4) rfl fr_191_0 rfl ?_
  refine L_gf (pc' := 7) rfl fi_192_0 rfl ?_
  refine L_ic (pc' := 8) rfl q1_1 rfl ?_
  refine L_s (pc' := 9) rfl rfl ?_
  refine L_li fun x1 _ => ?_
  refine L_s (pc' := 10) (L' := [some (.ref 191), some (.int x1)]) rfl rfl ?_
  refine L_s (pc' := 11) rfl rfl ?_
  refine L_ic (pc' := 12) rfl q1_0 rfl ?_
  refine L_bi (pc' := 14) rfl q2_15 rfl ?_
  refine L_ci (pc' := 17) (as := [.int x1, .int 0, .int 15]) (rest := []) rfl rfl (e_x_within (by omega) _ _ _ _) rfl fun x2 => ?_
  refine L_br (t := 43) (n := 20) rfl rfl (fun _ => ?_) (fun _ => ?_)
  · refine L_wk (L' := [some (.ref 191), none]) (wk_s (wk_n wk_nil)) ?_
    exact p_reader_takeAct_43 hd _
  · refine L_s (pc' := 21) rfl rfl ?_
    refine L_gf (pc' := 24) rfl fr_191_0 rfl ?_
    refine L_gf (pc' := 27) rfl fr_192_1 rfl ?_
    refine L_s (pc' := 28) rfl rfl ?_
    refine L_s (pc' := 29) rfl rfl ?_
    refine L_gf (pc' := 32) rfl fi_191_6 rfl ?_
    refine L_wI (pc' := 33) rfl sh_193 (by decide) rfl ?_
    refine L_let fun g3 _ => ?_
    refine L_s (pc' := 34) rfl rfl ?_
    refine L_gf (pc' := 37) rfl fr_191_0 rfl ?_
    refine L_gf (pc' := 40) rfl fr_192_2 rfl ?_
    refine L_s (pc' := 41) rfl rfl ?_
    refine L_ic (pc' := 42) rfl q1_0 rfl ?_
    refine L_wI (pc' := 43) rfl sh_194 (by decide) rfl ?_
    refine L_let fun g4 _ => ?_
    refine L_wk (L' := [some (.ref 191), none]) (wk_s (wk_n wk_nil)) ?_
    exact p_reader_takeAct_43 hd _
def reader_beginLine_49  (g : Sg) : Option (Int32 × Sg) :=
  (if ¬ (g 191 6) = 1 then
    Option.bind (reader_takeAct g) (fun (x1, g2) => (if x1 = 0 ∨ x1 = 1 then (some (x1, g2)) else none))
  else
    lt1 (up2 g 191 3 1) (fun g3 => (some (1, g3))))
def reader_beginLine  (g : Sg) : Option (Int32 × Sg) :=
  (if 16 ≤ (g 192 0) then
    Option.bind (reader_noteFault 3 g) (fun g1 => (reader_beginLine_49 g1))
  else
    (if inb (g 192 0) 16 = true then lt1 (up2 g 195 (Int32.toNatClampNeg (g 192 0)) 0) (fun g2 => lt1 (up2 g2 192 0 ((g2 192 0) + 1)) (fun g3 => (reader_beginLine_49 g3))) else none))
theorem p_reader_beginLine_49 {X : Xx} {d : Nat} (hd : 2 ≤ d)  (g : Sg) : Lt X d (some .boolean) k_49 (fun r : Int32 × Sg => ((some (.int r.1), (SHF, r.2)) : Out)) 49 [some (.ref 191)] [] g (reader_beginLine_49 g) := by
  unfold reader_beginLine_49
  refine L_s (pc' := 50) rfl rfl ?_
  refine L_gf (pc' := 53) rfl fi_191_6 rfl ?_
  refine L_ic (pc' := 54) rfl q1_1 rfl ?_
  refine L_br (t := 64) (n := 57) rfl rfl (fun _ => ?_) (fun _ => ?_)
  · refine L_s (pc' := 65) rfl rfl ?_
    refine L_cig (pc' := 68) (as := [.ref 191]) (rest := []) rfl rfl (e_reader_takeAct (by omega) _) rfl fun x1 g2 => ?_
    exact L_g fun h => L_ret rfl (ret_z h) rfl
  · refine L_s (pc' := 58) rfl rfl ?_
    refine L_ic (pc' := 59) rfl q1_1 rfl ?_
    refine L_pf (pc' := 62) rfl sh_191 (by decide) rfl rfl ?_
    refine L_let fun g3 _ => ?_
    refine L_ic (pc' := 63) rfl q1_1 rfl ?_
    exact L_ret rfl (ret_z (by decide)) rfl
theorem e_reader_beginLine {X : Xx} {d : Nat} (hd : 3 ≤ d)  (g : Sg) : ∀ r, reader_beginLine  g = some r → EvM zft mtl X d 49 [.ref 191] (SHF, g) ((fun r : Int32 × Sg => ((some (.int r.1), (SHF, r.2)) : Out)) r) := by
  obtain ⟨d, rfl⟩ : ∃ d0, d = d0 + 1 := ⟨d - 1, by omega⟩
  have hd : 2 ≤ d := by omega
  refine E_in (f := (fun r : Int32 × Sg => ((some (.int r.1), (SHF, r.2)) : Out))) rfl (Nat.le_of_ble_eq_true rfl) ?_
  unfold reader_beginLine
  change Lt X d (some .boolean) k_49 _ 0 [some (.ref 191)] [] g _
  refine L_s (pc' := 1) rfl rfl ?_
  refine L_gf (pc' := 4) rfl fr_191_0 rfl ?_
  refine L_gf (pc' := 7) rfl fi_192_0 rfl ?_
  refine L_bi (pc' := 9) rfl q2_16 rfl ?_
  refine L_br (t := 44) (n := 12) rfl rfl (fun _ => ?_) (fun _ => ?_)
  · refine L_s (pc' := 45) rfl rfl ?_
    refine L_ic (pc' := 46) rfl q1_3 rfl ?_
    refine L_cv (pc' := 49) (as := [.ref 191, .int 3]) (rest := []) rfl rfl (e_reader_noteFault (by omega) _ _) rfl fun g1 => ?_
    exact p_reader_beginLine_49 hd _
  · refine L_s (pc' := 13) rfl rfl ?_
    refine L_gf (pc' := 16) rfl fr_191_0 rfl ?_
    refine L_gf (pc' := 19) rfl fr_192_3 rfl ?_
    refine L_s (pc' := 20) rfl rfl ?_
    refine L_gf (pc' := 23) rfl fr_191_0 rfl ?_
    refine L_gf (pc' := 26) rfl fi_192_0 rfl ?_
    refine L_ic (pc' := 27) rfl q1_0 rfl ?_
    refine L_wI (pc' := 28) rfl sh_195 (by decide) rfl ?_
    refine L_let fun g2 _ => ?_
    refine L_s (pc' := 29) rfl rfl ?_
    refine L_gf (pc' := 32) rfl fr_191_0 rfl ?_
    refine L_s (pc' := 33) rfl rfl ?_
    refine L_gf (pc' := 36) rfl fi_192_0 rfl ?_
    refine L_ic (pc' := 37) rfl q1_1 rfl ?_
    refine L_s (pc' := 38) rfl rfl ?_
    refine L_pf (pc' := 41) rfl sh_192 (by decide) rfl rfl ?_
    refine L_let fun g3 _ => ?_
    refine L_s (pc' := 49) rfl rfl ?_
    exact p_reader_beginLine_49 hd _
def tokens_isFact (v0 : Int32) (g : Sg) : Option (Int32) :=
  (if v0 < 7 then
    (some 0)
  else
    (if 12 < v0 then
      (some 0)
    else
      (some 1)))
theorem e_tokens_isFact {X : Xx} {d : Nat} (hd : 1 ≤ d) (v0 : Int32) (g : Sg) : ∀ r, tokens_isFact v0 g = some r → EvM zft mtl X d 82 [.int v0] (SHF, g) ((fun r : Int32 => ((some (.int r), (SHF, g)) : Out)) r) := by
  obtain ⟨d, rfl⟩ : ∃ d0, d = d0 + 1 := ⟨d - 1, by omega⟩
  have hd : 0 ≤ d := by omega
  refine E_in (f := (fun r : Int32 => ((some (.int r), (SHF, g)) : Out))) rfl (Nat.le_of_ble_eq_true rfl) ?_
  unfold tokens_isFact
  change Lt X d (some .boolean) k_82 _ 0 [some (.int v0)] [] g _
  refine L_s (pc' := 1) rfl rfl ?_
  refine L_bi (pc' := 3) rfl q2_7 rfl ?_
  refine L_br (t := 16) (n := 6) rfl rfl (fun _ => ?_) (fun _ => ?_)
  · refine L_ic (pc' := 17) rfl q1_0 rfl ?_
    exact L_ret rfl (ret_z (by decide)) rfl
  · refine L_s (pc' := 7) rfl rfl ?_
    refine L_bi (pc' := 9) rfl q2_12 rfl ?_
    refine L_br (t := 16) (n := 12) rfl rfl (fun _ => ?_) (fun _ => ?_)
    · refine L_ic (pc' := 17) rfl q1_0 rfl ?_
      exact L_ret rfl (ret_z (by decide)) rfl
    · refine L_ic (pc' := 13) rfl q1_1 rfl ?_
      refine L_s (pc' := 17) rfl rfl ?_
      exact L_ret rfl (ret_z (by decide)) rfl
