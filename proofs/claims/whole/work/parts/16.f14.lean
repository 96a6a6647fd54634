/-! printed by wip/whole/decomp.py -/
def m_three_k102_97_114  (g : Sg) : Option (Int64) :=
  (some 6194)
theorem e_m_three_k102_97_114 {X : Xx} {d : Nat} (hd : 1 ≤ d)  (g : Sg) : ∀ r, m_three_k102_97_114  g = some r → EvM zft mtl X d 192 [.int 102, .int 97, .int 114] (SHF, g) ((fun r : Int64 => ((some (.long r), (SHF, g)) : Out)) r) := by
  obtain ⟨d, rfl⟩ : ∃ d0, d = d0 + 1 := ⟨d - 1, by omega⟩
  have hd : 0 ≤ d := by omega
  refine E_in (f := (fun r : Int64 => ((some (.long r), (SHF, g)) : Out))) rfl (Nat.le_of_ble_eq_true rfl) ?_
  unfold m_three_k102_97_114
  change Lt X d (some .long) k_192 _ 0 [some (.int 102), some (.int 97), some (.int 114)] [] g _
  refine L_ld2 (pc' := 3) rfl q4_32 rfl ?_
  refine L_s (pc' := 4) rfl rfl ?_
  refine L_bi (pc' := 6) rfl q2_96 rfl ?_
  refine L_s (pc' := 7) rfl rfl ?_
  refine L_e (b := 6) (by decide) ?_
  refine L_s (pc' := 8) rfl rfl ?_
  refine L_le (b := 6) (by decide) ?_
  refine L_s (pc' := 9) rfl rfl ?_
  refine L_le (b := 192) (by decide) ?_
  refine L_s (pc' := 10) rfl rfl ?_
  refine L_s (pc' := 11) rfl rfl ?_
  refine L_le (b := 97) (by decide) ?_
  refine L_s (pc' := 12) rfl rfl ?_
  refine L_le (b := 289) (by decide) ?_
  refine L_ld2 (pc' := 15) rfl q4_96 rfl ?_
  refine L_s (pc' := 16) rfl rfl ?_
  refine L_le (b := 193) (by decide) ?_
  refine L_ld2 (pc' := 19) rfl q4_32 rfl ?_
  refine L_s (pc' := 20) rfl rfl ?_
  refine L_le (b := 6176) (by decide) ?_
  refine L_s (pc' := 21) rfl rfl ?_
  refine L_s (pc' := 22) rfl rfl ?_
  refine L_le (b := 114) (by decide) ?_
  refine L_s (pc' := 23) rfl rfl ?_
  refine L_le (b := 6290) (by decide) ?_
  refine L_ld2 (pc' := 26) rfl q4_96 rfl ?_
  refine L_s (pc' := 27) rfl rfl ?_
  refine L_le (b := 6194) (by decide) ?_
  exact L_ret rfl rfl rfl
def m_three_k104_111_108  (g : Sg) : Option (Int64) :=
  (some 8684)
theorem e_m_three_k104_111_108 {X : Xx} {d : Nat} (hd : 1 ≤ d)  (g : Sg) : ∀ r, m_three_k104_111_108  g = some r → EvM zft mtl X d 192 [.int 104, .int 111, .int 108] (SHF, g) ((fun r : Int64 => ((some (.long r), (SHF, g)) : Out)) r) := by
  obtain ⟨d, rfl⟩ : ∃ d0, d = d0 + 1 := ⟨d - 1, by omega⟩
  have hd : 0 ≤ d := by omega
  refine E_in (f := (fun r : Int64 => ((some (.long r), (SHF, g)) : Out))) rfl (Nat.le_of_ble_eq_true rfl) ?_
  unfold m_three_k104_111_108
  change Lt X d (some .long) k_192 _ 0 [some (.int 104), some (.int 111), some (.int 108)] [] g _
  refine L_ld2 (pc' := 3) rfl q4_32 rfl ?_
  refine L_s (pc' := 4) rfl rfl ?_
  refine L_bi (pc' := 6) rfl q2_96 rfl ?_
  refine L_s (pc' := 7) rfl rfl ?_
  refine L_e (b := 8) (by decide) ?_
  refine L_s (pc' := 8) rfl rfl ?_
  refine L_le (b := 8) (by decide) ?_
  refine L_s (pc' := 9) rfl rfl ?_
  refine L_le (b := 256) (by decide) ?_
  refine L_s (pc' := 10) rfl rfl ?_
  refine L_s (pc' := 11) rfl rfl ?_
  refine L_le (b := 111) (by decide) ?_
  refine L_s (pc' := 12) rfl rfl ?_
  refine L_le (b := 367) (by decide) ?_
  refine L_ld2 (pc' := 15) rfl q4_96 rfl ?_
  refine L_s (pc' := 16) rfl rfl ?_
  refine L_le (b := 271) (by decide) ?_
  refine L_ld2 (pc' := 19) rfl q4_32 rfl ?_
  refine L_s (pc' := 20) rfl rfl ?_
  refine L_le (b := 8672) (by decide) ?_
  refine L_s (pc' := 21) rfl rfl ?_
  refine L_s (pc' := 22) rfl rfl ?_
  refine L_le (b := 108) (by decide) ?_
  refine L_s (pc' := 23) rfl rfl ?_
  refine L_le (b := 8780) (by decide) ?_
  refine L_ld2 (pc' := 26) rfl q4_96 rfl ?_
  refine L_s (pc' := 27) rfl rfl ?_
  refine L_le (b := 8684) (by decide) ?_
  exact L_ret rfl rfl rfl
def m_three_k100_101_114  (g : Sg) : Option (Int64) :=
  (some 4274)
theorem e_m_three_k100_101_114 {X : Xx} {d : Nat} (hd : 1 ≤ d)  (g : Sg) : ∀ r, m_three_k100_101_114  g = some r → EvM zft mtl X d 192 [.int 100, .int 101, .int 114] (SHF, g) ((fun r : Int64 => ((some (.long r), (SHF, g)) : Out)) r) := by
  obtain ⟨d, rfl⟩ : ∃ d0, d = d0 + 1 := ⟨d - 1, by omega⟩
  have hd : 0 ≤ d := by omega
  refine E_in (f := (fun r : Int64 => ((some (.long r), (SHF, g)) : Out))) rfl (Nat.le_of_ble_eq_true rfl) ?_
  unfold m_three_k100_101_114
  change Lt X d (some .long) k_192 _ 0 [some (.int 100), some (.int 101), some (.int 114)] [] g _
  refine L_ld2 (pc' := 3) rfl q4_32 rfl ?_
  refine L_s (pc' := 4) rfl rfl ?_
  refine L_bi (pc' := 6) rfl q2_96 rfl ?_
  refine L_s (pc' := 7) rfl rfl ?_
  refine L_e (b := 4) (by decide) ?_
  refine L_s (pc' := 8) rfl rfl ?_
  refine L_le (b := 4) (by decide) ?_
  refine L_s (pc' := 9) rfl rfl ?_
  refine L_le (b := 128) (by decide) ?_
  refine L_s (pc' := 10) rfl rfl ?_
  refine L_s (pc' := 11) rfl rfl ?_
  refine L_le (b := 101) (by decide) ?_
  refine L_s (pc' := 12) rfl rfl ?_
  refine L_le (b := 229) (by decide) ?_
  refine L_ld2 (pc' := 15) rfl q4_96 rfl ?_
  refine L_s (pc' := 16) rfl rfl ?_
  refine L_le (b := 133) (by decide) ?_
  refine L_ld2 (pc' := 19) rfl q4_32 rfl ?_
  refine L_s (pc' := 20) rfl rfl ?_
  refine L_le (b := 4256) (by decide) ?_
  refine L_s (pc' := 21) rfl rfl ?_
  refine L_s (pc' := 22) rfl rfl ?_
  refine L_le (b := 114) (by decide) ?_
  refine L_s (pc' := 23) rfl rfl ?_
  refine L_le (b := 4370) (by decide) ?_
  refine L_ld2 (pc' := 26) rfl q4_96 rfl ?_
  refine L_s (pc' := 27) rfl rfl ?_
  refine L_le (b := 4274) (by decide) ?_
  exact L_ret rfl rfl rfl
def m_three_k111_119_101  (g : Sg) : Option (Int64) :=
  (some 16101)
theorem e_m_three_k111_119_101 {X : Xx} {d : Nat} (hd : 1 ≤ d)  (g : Sg) : ∀ r, m_three_k111_119_101  g = some r → EvM zft mtl X d 192 [.int 111, .int 119, .int 101] (SHF, g) ((fun r : Int64 => ((some (.long r), (SHF, g)) : Out)) r) := by
  obtain ⟨d, rfl⟩ : ∃ d0, d = d0 + 1 := ⟨d - 1, by omega⟩
  have hd : 0 ≤ d := by omega
  refine E_in (f := (fun r : Int64 => ((some (.long r), (SHF, g)) : Out))) rfl (Nat.le_of_ble_eq_true rfl) ?_
  unfold m_three_k111_119_101
  change Lt X d (some .long) k_192 _ 0 [some (.int 111), some (.int 119), some (.int 101)] [] g _
  refine L_ld2 (pc' := 3) rfl q4_32 rfl ?_
  refine L_s (pc' := 4) rfl rfl ?_
  refine L_bi (pc' := 6) rfl q2_96 rfl ?_
  refine L_s (pc' := 7) rfl rfl ?_
  refine L_e (b := 15) (by decide) ?_
  refine L_s (pc' := 8) rfl rfl ?_
  refine L_le (b := 15) (by decide) ?_
  refine L_s (pc' := 9) rfl rfl ?_
  refine L_le (b := 480) (by decide) ?_
  refine L_s (pc' := 10) rfl rfl ?_
  refine L_s (pc' := 11) rfl rfl ?_
  refine L_le (b := 119) (by decide) ?_
  refine L_s (pc' := 12) rfl rfl ?_
  refine L_le (b := 599) (by decide) ?_
  refine L_ld2 (pc' := 15) rfl q4_96 rfl ?_
  refine L_s (pc' := 16) rfl rfl ?_
  refine L_le (b := 503) (by decide) ?_
  refine L_ld2 (pc' := 19) rfl q4_32 rfl ?_
  refine L_s (pc' := 20) rfl rfl ?_
  refine L_le (b := 16096) (by decide) ?_
  refine L_s (pc' := 21) rfl rfl ?_
  refine L_s (pc' := 22) rfl rfl ?_
  refine L_le (b := 101) (by decide) ?_
  refine L_s (pc' := 23) rfl rfl ?_
  refine L_le (b := 16197) (by decide) ?_
  refine L_ld2 (pc' := 26) rfl q4_96 rfl ?_
  refine L_s (pc' := 27) rfl rfl ?_
  refine L_le (b := 16101) (by decide) ?_
  exact L_ret rfl rfl rfl
def m_four_k111_119_101_100  (g : Sg) : Option (Int64) :=
  (some 515236)
theorem e_m_four_k111_119_101_100 {X : Xx} {d : Nat} (hd : 2 ≤ d)  (g : Sg) : ∀ r, m_four_k111_119_101_100  g = some r → EvM zft mtl X d 193 [.int 111, .int 119, .int 101, .int 100] (SHF, g) ((fun r : Int64 => ((some (.long r), (SHF, g)) : Out)) r) := by
  obtain ⟨d, rfl⟩ : ∃ d0, d = d0 + 1 := ⟨d - 1, by omega⟩
  have hd : 1 ≤ d := by omega
  refine E_in (f := (fun r : Int64 => ((some (.long r), (SHF, g)) : Out))) rfl (Nat.le_of_ble_eq_true rfl) ?_
  unfold m_four_k111_119_101_100
  change Lt X d (some .long) k_193 _ 0 [some (.int 111), some (.int 119), some (.int 101), some (.int 100)] [] g _
  refine L_s (pc' := 1) rfl rfl ?_
  refine L_s (pc' := 2) rfl rfl ?_
  refine L_s (pc' := 3) rfl rfl ?_
  refine L_kj (pc' := 6) (as := [.int 111, .int 119, .int 101]) (rest := []) rfl rfl ((e_m_three_k111_119_101 (by omega) _) (16101) rfl) rfl ?_
  refine L_ld2 (pc' := 9) rfl q4_32 rfl ?_
  refine L_s (pc' := 10) rfl rfl ?_
  refine L_le (b := 515232) (by decide) ?_
  refine L_s (pc' := 11) rfl rfl ?_
  refine L_s (pc' := 12) rfl rfl ?_
  refine L_le (b := 100) (by decide) ?_
  refine L_s (pc' := 13) rfl rfl ?_
  refine L_le (b := 515332) (by decide) ?_
  refine L_ld2 (pc' := 16) rfl q4_96 rfl ?_
  refine L_s (pc' := 17) rfl rfl ?_
  refine L_le (b := 515236) (by decide) ?_
  exact L_ret rfl rfl rfl
def m_three_k119_101_105  (g : Sg) : Option (Int64) :=
  (some 23721)
theorem e_m_three_k119_101_105 {X : Xx} {d : Nat} (hd : 1 ≤ d)  (g : Sg) : ∀ r, m_three_k119_101_105  g = some r → EvM zft mtl X d 192 [.int 119, .int 101, .int 105] (SHF, g) ((fun r : Int64 => ((some (.long r), (SHF, g)) : Out)) r) := by
  obtain ⟨d, rfl⟩ : ∃ d0, d = d0 + 1 := ⟨d - 1, by omega⟩
  have hd : 0 ≤ d := by omega
  refine E_in (f := (fun r : Int64 => ((some (.long r), (SHF, g)) : Out))) rfl (Nat.le_of_ble_eq_true rfl) ?_
  unfold m_three_k119_101_105
  change Lt X d (some .long) k_192 _ 0 [some (.int 119), some (.int 101), some (.int 105)] [] g _
  refine L_ld2 (pc' := 3) rfl q4_32 rfl ?_
  refine L_s (pc' := 4) rfl rfl ?_
  refine L_bi (pc' := 6) rfl q2_96 rfl ?_
  refine L_s (pc' := 7) rfl rfl ?_
  refine L_e (b := 23) (by decide) ?_
  refine L_s (pc' := 8) rfl rfl ?_
  refine L_le (b := 23) (by decide) ?_
  refine L_s (pc' := 9) rfl rfl ?_
  refine L_le (b := 736) (by decide) ?_
  refine L_s (pc' := 10) rfl rfl ?_
  refine L_s (pc' := 11) rfl rfl ?_
  refine L_le (b := 101) (by decide) ?_
  refine L_s (pc' := 12) rfl rfl ?_
  refine L_le (b := 837) (by decide) ?_
  refine L_ld2 (pc' := 15) rfl q4_96 rfl ?_
  refine L_s (pc' := 16) rfl rfl ?_
  refine L_le (b := 741) (by decide) ?_
  refine L_ld2 (pc' := 19) rfl q4_32 rfl ?_
  refine L_s (pc' := 20) rfl rfl ?_
  refine L_le (b := 23712) (by decide) ?_
  refine L_s (pc' := 21) rfl rfl ?_
  refine L_s (pc' := 22) rfl rfl ?_
  refine L_le (b := 105) (by decide) ?_
  refine L_s (pc' := 23) rfl rfl ?_
  refine L_le (b := 23817) (by decide) ?_
  refine L_ld2 (pc' := 26) rfl q4_96 rfl ?_
  refine L_s (pc' := 27) rfl rfl ?_
  refine L_le (b := 23721) (by decide) ?_
  exact L_ret rfl rfl rfl
def m_three_k103_104_116  (g : Sg) : Option (Int64) :=
  (some 7444)
theorem e_m_three_k103_104_116 {X : Xx} {d : Nat} (hd : 1 ≤ d)  (g : Sg) : ∀ r, m_three_k103_104_116  g = some r → EvM zft mtl X d 192 [.int 103, .int 104, .int 116] (SHF, g) ((fun r : Int64 => ((some (.long r), (SHF, g)) : Out)) r) := by
  obtain ⟨d, rfl⟩ : ∃ d0, d = d0 + 1 := ⟨d - 1, by omega⟩
  have hd : 0 ≤ d := by omega
  refine E_in (f := (fun r : Int64 => ((some (.long r), (SHF, g)) : Out))) rfl (Nat.le_of_ble_eq_true rfl) ?_
  unfold m_three_k103_104_116
  change Lt X d (some .long) k_192 _ 0 [some (.int 103), some (.int 104), some (.int 116)] [] g _
  refine L_ld2 (pc' := 3) rfl q4_32 rfl ?_
  refine L_s (pc' := 4) rfl rfl ?_
  refine L_bi (pc' := 6) rfl q2_96 rfl ?_
  refine L_s (pc' := 7) rfl rfl ?_
  refine L_e (b := 7) (by decide) ?_
  refine L_s (pc' := 8) rfl rfl ?_
  refine L_le (b := 7) (by decide) ?_
  refine L_s (pc' := 9) rfl rfl ?_
  refine L_le (b := 224) (by decide) ?_
  refine L_s (pc' := 10) rfl rfl ?_
  refine L_s (pc' := 11) rfl rfl ?_
  refine L_le (b := 104) (by decide) ?_
  refine L_s (pc' := 12) rfl rfl ?_
  refine L_le (b := 328) (by decide) ?_
  refine L_ld2 (pc' := 15) rfl q4_96 rfl ?_
  refine L_s (pc' := 16) rfl rfl ?_
  refine L_le (b := 232) (by decide) ?_
  refine L_ld2 (pc' := 19) rfl q4_32 rfl ?_
  refine L_s (pc' := 20) rfl rfl ?_
  refine L_le (b := 7424) (by decide) ?_
  refine L_s (pc' := 21) rfl rfl ?_
  refine L_s (pc' := 22) rfl rfl ?_
  refine L_le (b := 116) (by decide) ?_
  refine L_s (pc' := 23) rfl rfl ?_
  refine L_le (b := 7540) (by decide) ?_
  refine L_ld2 (pc' := 26) rfl q4_96 rfl ?_
  refine L_s (pc' := 27) rfl rfl ?_
  refine L_le (b := 7444) (by decide) ?_
  exact L_ret rfl rfl rfl
def m_three_k99_117_116  (g : Sg) : Option (Int64) :=
  (some 3764)
theorem e_m_three_k99_117_116 {X : Xx} {d : Nat} (hd : 1 ≤ d)  (g : Sg) : ∀ r, m_three_k99_117_116  g = some r → EvM zft mtl X d 192 [.int 99, .int 117, .int 116] (SHF, g) ((fun r : Int64 => ((some (.long r), (SHF, g)) : Out)) r) := by
  obtain ⟨d, rfl⟩ : ∃ d0, d = d0 + 1 := ⟨d - 1, by omega⟩
  have hd : 0 ≤ d := by omega
  refine E_in (f := (fun r : Int64 => ((some (.long r), (SHF, g)) : Out))) rfl (Nat.le_of_ble_eq_true rfl) ?_
  unfold m_three_k99_117_116
  change Lt X d (some .long) k_192 _ 0 [some (.int 99), some (.int 117), some (.int 116)] [] g _
  refine L_ld2 (pc' := 3) rfl q4_32 rfl ?_
  refine L_s (pc' := 4) rfl rfl ?_
  refine L_bi (pc' := 6) rfl q2_96 rfl ?_
  refine L_s (pc' := 7) rfl rfl ?_
  refine L_e (b := 3) (by decide) ?_
  refine L_s (pc' := 8) rfl rfl ?_
  refine L_le (b := 3) (by decide) ?_
  refine L_s (pc' := 9) rfl rfl ?_
  refine L_le (b := 96) (by decide) ?_
  refine L_s (pc' := 10) rfl rfl ?_
  refine L_s (pc' := 11) rfl rfl ?_
  refine L_le (b := 117) (by decide) ?_
  refine L_s (pc' := 12) rfl rfl ?_
  refine L_le (b := 213) (by decide) ?_
  refine L_ld2 (pc' := 15) rfl q4_96 rfl ?_
  refine L_s (pc' := 16) rfl rfl ?_
  refine L_le (b := 117) (by decide) ?_
  refine L_ld2 (pc' := 19) rfl q4_32 rfl ?_
  refine L_s (pc' := 20) rfl rfl ?_
  refine L_le (b := 3744) (by decide) ?_
  refine L_s (pc' := 21) rfl rfl ?_
  refine L_s (pc' := 22) rfl rfl ?_
  refine L_le (b := 116) (by decide) ?_
  refine L_s (pc' := 23) rfl rfl ?_
  refine L_le (b := 3860) (by decide) ?_
  refine L_ld2 (pc' := 26) rfl q4_96 rfl ?_
  refine L_s (pc' := 27) rfl rfl ?_
  refine L_le (b := 3764) (by decide) ?_
  exact L_ret rfl rfl rfl
def m_three_k102_114_101  (g : Sg) : Option (Int64) :=
  (some 6725)
theorem e_m_three_k102_114_101 {X : Xx} {d : Nat} (hd : 1 ≤ d)  (g : Sg) : ∀ r, m_three_k102_114_101  g = some r → EvM zft mtl X d 192 [.int 102, .int 114, .int 101] (SHF, g) ((fun r : Int64 => ((some (.long r), (SHF, g)) : Out)) r) := by
  obtain ⟨d, rfl⟩ : ∃ d0, d = d0 + 1 := ⟨d - 1, by omega⟩
  have hd : 0 ≤ d := by omega
  refine E_in (f := (fun r : Int64 => ((some (.long r), (SHF, g)) : Out))) rfl (Nat.le_of_ble_eq_true rfl) ?_
  unfold m_three_k102_114_101
  change Lt X d (some .long) k_192 _ 0 [some (.int 102), some (.int 114), some (.int 101)] [] g _
  refine L_ld2 (pc' := 3) rfl q4_32 rfl ?_
  refine L_s (pc' := 4) rfl rfl ?_
  refine L_bi (pc' := 6) rfl q2_96 rfl ?_
  refine L_s (pc' := 7) rfl rfl ?_
  refine L_e (b := 6) (by decide) ?_
  refine L_s (pc' := 8) rfl rfl ?_
  refine L_le (b := 6) (by decide) ?_
  refine L_s (pc' := 9) rfl rfl ?_
  refine L_le (b := 192) (by decide) ?_
  refine L_s (pc' := 10) rfl rfl ?_
  refine L_s (pc' := 11) rfl rfl ?_
  refine L_le (b := 114) (by decide) ?_
  refine L_s (pc' := 12) rfl rfl ?_
  refine L_le (b := 306) (by decide) ?_
  refine L_ld2 (pc' := 15) rfl q4_96 rfl ?_
  refine L_s (pc' := 16) rfl rfl ?_
  refine L_le (b := 210) (by decide) ?_
  refine L_ld2 (pc' := 19) rfl q4_32 rfl ?_
  refine L_s (pc' := 20) rfl rfl ?_
  refine L_le (b := 6720) (by decide) ?_
  refine L_s (pc' := 21) rfl rfl ?_
  refine L_s (pc' := 22) rfl rfl ?_
  refine L_le (b := 101) (by decide) ?_
  refine L_s (pc' := 23) rfl rfl ?_
  refine L_le (b := 6821) (by decide) ?_
  refine L_ld2 (pc' := 26) rfl q4_96 rfl ?_
  refine L_s (pc' := 27) rfl rfl ?_
  refine L_le (b := 6725) (by decide) ?_
  exact L_ret rfl rfl rfl
def m_four_k102_114_101_101  (g : Sg) : Option (Int64) :=
  (some 215205)
theorem e_m_four_k102_114_101_101 {X : Xx} {d : Nat} (hd : 2 ≤ d)  (g : Sg) : ∀ r, m_four_k102_114_101_101  g = some r → EvM zft mtl X d 193 [.int 102, .int 114, .int 101, .int 101] (SHF, g) ((fun r : Int64 => ((some (.long r), (SHF, g)) : Out)) r) := by
  obtain ⟨d, rfl⟩ : ∃ d0, d = d0 + 1 := ⟨d - 1, by omega⟩
  have hd : 1 ≤ d := by omega
  refine E_in (f := (fun r : Int64 => ((some (.long r), (SHF, g)) : Out))) rfl (Nat.le_of_ble_eq_true rfl) ?_
  unfold m_four_k102_114_101_101
  change Lt X d (some .long) k_193 _ 0 [some (.int 102), some (.int 114), some (.int 101), some (.int 101)] [] g _
  refine L_s (pc' := 1) rfl rfl ?_
  refine L_s (pc' := 2) rfl rfl ?_
  refine L_s (pc' := 3) rfl rfl ?_
  refine L_kj (pc' := 6) (as := [.int 102, .int 114, .int 101]) (rest := []) rfl rfl ((e_m_three_k102_114_101 (by omega) _) (6725) rfl) rfl ?_
  refine L_ld2 (pc' := 9) rfl q4_32 rfl ?_
  refine L_s (pc' := 10) rfl rfl ?_
  refine L_le (b := 215200) (by decide) ?_
  refine L_s (pc' := 11) rfl rfl ?_
  refine L_s (pc' := 12) rfl rfl ?_
  refine L_le (b := 101) (by decide) ?_
  refine L_s (pc' := 13) rfl rfl ?_
  refine L_le (b := 215301) (by decide) ?_
  refine L_ld2 (pc' := 16) rfl q4_96 rfl ?_
  refine L_s (pc' := 17) rfl rfl ?_
  refine L_le (b := 215205) (by decide) ?_
  exact L_ret rfl rfl rfl
def m_three_k97_110_100  (g : Sg) : Option (Int64) :=
  (some 1476)
theorem e_m_three_k97_110_100 {X : Xx} {d : Nat} (hd : 1 ≤ d)  (g : Sg) : ∀ r, m_three_k97_110_100  g = some r → EvM zft mtl X d 192 [.int 97, .int 110, .int 100] (SHF, g) ((fun r : Int64 => ((some (.long r), (SHF, g)) : Out)) r) := by
  obtain ⟨d, rfl⟩ : ∃ d0, d = d0 + 1 := ⟨d - 1, by omega⟩
  have hd : 0 ≤ d := by omega
  refine E_in (f := (fun r : Int64 => ((some (.long r), (SHF, g)) : Out))) rfl (Nat.le_of_ble_eq_true rfl) ?_
  unfold m_three_k97_110_100
  change Lt X d (some .long) k_192 _ 0 [some (.int 97), some (.int 110), some (.int 100)] [] g _
  refine L_ld2 (pc' := 3) rfl q4_32 rfl ?_
  refine L_s (pc' := 4) rfl rfl ?_
  refine L_bi (pc' := 6) rfl q2_96 rfl ?_
  refine L_s (pc' := 7) rfl rfl ?_
  refine L_e (b := 1) (by decide) ?_
  refine L_s (pc' := 8) rfl rfl ?_
  refine L_le (b := 1) (by decide) ?_
  refine L_s (pc' := 9) rfl rfl ?_
  refine L_le (b := 32) (by decide) ?_
  refine L_s (pc' := 10) rfl rfl ?_
  refine L_s (pc' := 11) rfl rfl ?_
  refine L_le (b := 110) (by decide) ?_
  refine L_s (pc' := 12) rfl rfl ?_
  refine L_le (b := 142) (by decide) ?_
  refine L_ld2 (pc' := 15) rfl q4_96 rfl ?_
  refine L_s (pc' := 16) rfl rfl ?_
  refine L_le (b := 46) (by decide) ?_
  refine L_ld2 (pc' := 19) rfl q4_32 rfl ?_
  refine L_s (pc' := 20) rfl rfl ?_
  refine L_le (b := 1472) (by decide) ?_
  refine L_s (pc' := 21) rfl rfl ?_
  refine L_s (pc' := 22) rfl rfl ?_
  refine L_le (b := 100) (by decide) ?_
  refine L_s (pc' := 23) rfl rfl ?_
  refine L_le (b := 1572) (by decide) ?_
  refine L_ld2 (pc' := 26) rfl q4_96 rfl ?_
  refine L_s (pc' := 27) rfl rfl ?_
  refine L_le (b := 1476) (by decide) ?_
  exact L_ret rfl rfl rfl
def m_three_k110_111_116  (g : Sg) : Option (Int64) :=
  (some 14836)
theorem e_m_three_k110_111_116 {X : Xx} {d : Nat} (hd : 1 ≤ d)  (g : Sg) : ∀ r, m_three_k110_111_116  g = some r → EvM zft mtl X d 192 [.int 110, .int 111, .int 116] (SHF, g) ((fun r : Int64 => ((some (.long r), (SHF, g)) : Out)) r) := by
  obtain ⟨d, rfl⟩ : ∃ d0, d = d0 + 1 := ⟨d - 1, by omega⟩
  have hd : 0 ≤ d := by omega
  refine E_in (f := (fun r : Int64 => ((some (.long r), (SHF, g)) : Out))) rfl (Nat.le_of_ble_eq_true rfl) ?_
  unfold m_three_k110_111_116
  change Lt X d (some .long) k_192 _ 0 [some (.int 110), some (.int 111), some (.int 116)] [] g _
  refine L_ld2 (pc' := 3) rfl q4_32 rfl ?_
  refine L_s (pc' := 4) rfl rfl ?_
  refine L_bi (pc' := 6) rfl q2_96 rfl ?_
  refine L_s (pc' := 7) rfl rfl ?_
  refine L_e (b := 14) (by decide) ?_
  refine L_s (pc' := 8) rfl rfl ?_
  refine L_le (b := 14) (by decide) ?_
  refine L_s (pc' := 9) rfl rfl ?_
  refine L_le (b := 448) (by decide) ?_
  refine L_s (pc' := 10) rfl rfl ?_
  refine L_s (pc' := 11) rfl rfl ?_
  refine L_le (b := 111) (by decide) ?_
  refine L_s (pc' := 12) rfl rfl ?_
  refine L_le (b := 559) (by decide) ?_
  refine L_ld2 (pc' := 15) rfl q4_96 rfl ?_
  refine L_s (pc' := 16) rfl rfl ?_
  refine L_le (b := 463) (by decide) ?_
  refine L_ld2 (pc' := 19) rfl q4_32 rfl ?_
  refine L_s (pc' := 20) rfl rfl ?_
  refine L_le (b := 14816) (by decide) ?_
  refine L_s (pc' := 21) rfl rfl ?_
  refine L_s (pc' := 22) rfl rfl ?_
  refine L_le (b := 116) (by decide) ?_
  refine L_s (pc' := 23) rfl rfl ?_
  refine L_le (b := 14932) (by decide) ?_
  refine L_ld2 (pc' := 26) rfl q4_96 rfl ?_
  refine L_s (pc' := 27) rfl rfl ?_
  refine L_le (b := 14836) (by decide) ?_
  exact L_ret rfl rfl rfl
def m_wordOf (v0 : Int64) (g : Sg) : Option (Int32) :=
  (if ¬ (lg_cmp v0 4697) = 0 then
    (if ¬ (lg_cmp v0 8902227) = 0 then
      (if ¬ (lg_cmp v0 14982420) = 0 then
        (if ¬ (lg_cmp v0 6194) = 0 then
          (if ¬ (lg_cmp v0 284561586) = 0 then
            (if ¬ (lg_cmp v0 515236) = 0 then
              (if ¬ (lg_cmp v0 777297172) = 0 then
                (if ¬ (lg_cmp v0 3764) = 0 then
                  (if ¬ (lg_cmp v0 215205) = 0 then
                    (if ¬ (lg_cmp v0 294) = 0 then
                      (if ¬ (lg_cmp v0 1476) = 0 then
                        (if ¬ (lg_cmp v0 14836) = 0 then
                          (some 99)
                        else
                          (some 32))
                      else
                        (some 31))
                    else
                      (some 30))
                  else
                    (some 22))
                else
                  (some 21))
              else
                (some 20))
            else
              (some 6))
          else
            (some 5))
        else
          (some 4))
      else
        (some 3))
    else
      (some 2))
  else
    (some 1))
set_option maxRecDepth 20000 in
theorem e_m_wordOf {X : Xx} {d : Nat} (hd : 3 ≤ d) (v0 : Int64) (g : Sg) : ∀ r, m_wordOf v0 g = some r → EvM zft mtl X d 194 [.long v0] (SHF, g) ((fun r : Int32 => ((some (.int r), (SHF, g)) : Out)) r) := by
  obtain ⟨d, rfl⟩ : ∃ d0, d = d0 + 1 := ⟨d - 1, by omega⟩
  have hd : 2 ≤ d := by omega
  refine E_in (f := (fun r : Int32 => ((some (.int r), (SHF, g)) : Out))) rfl (Nat.le_of_ble_eq_true rfl) ?_
  unfold m_wordOf
  change Lt X d (some .int) k_194 _ 0 [some (.long v0), none] [] g _
  refine L_s (pc' := 1) rfl rfl ?_
  refine L_bi (pc' := 3) rfl q2_100 rfl ?_
  refine L_bi (pc' := 5) rfl q2_114 rfl ?_
  refine L_bi (pc' := 7) rfl q2_121 rfl ?_
  refine L_kj (pc' := 10) (as := [.int 100, .int 114, .int 121]) (rest := [.long v0]) rfl rfl ((e_m_three_k100_114_121 (by omega) _) (4697) rfl) rfl ?_
  refine L_s (pc' := 11) rfl rfl ?_
  refine L_br (t := 16) (n := 14) rfl rfl (fun _ => ?_) (fun _ => ?_)
  · refine L_s (pc' := 17) rfl rfl ?_
    refine L_bi (pc' := 19) rfl q2_104 rfl ?_
    refine L_bi (pc' := 21) rfl q2_111 rfl ?_
    refine L_bi (pc' := 23) rfl q2_117 rfl ?_
    refine L_bi (pc' := 25) rfl q2_114 rfl ?_
    refine L_kj (pc' := 28) (as := [.int 104, .int 111, .int 117, .int 114]) (rest := [.long v0]) rfl rfl ((e_m_four_k104_111_117_114 (by omega) _) (278194) rfl) rfl ?_
    refine L_ld2 (pc' := 31) rfl q4_32 rfl ?_
    refine L_s (pc' := 32) rfl rfl ?_
    refine L_le (b := 8902208) (by decide) ?_
    refine L_ld2 (pc' := 35) rfl q4_115 rfl ?_
    refine L_s (pc' := 36) rfl rfl ?_
    refine L_le (b := 8902323) (by decide) ?_
    refine L_ld2 (pc' := 39) rfl q4_96 rfl ?_
    refine L_s (pc' := 40) rfl rfl ?_
    refine L_le (b := 8902227) (by decide) ?_
    refine L_s (pc' := 41) rfl rfl ?_
    refine L_br (t := 46) (n := 44) rfl rfl (fun _ => ?_) (fun _ => ?_)
    · refine L_s (pc' := 47) rfl rfl ?_
      refine L_bi (pc' := 49) rfl q2_110 rfl ?_
      refine L_bi (pc' := 51) rfl q2_105 rfl ?_
      refine L_bi (pc' := 53) rfl q2_103 rfl ?_
      refine L_bi (pc' := 55) rfl q2_104 rfl ?_
      refine L_kj (pc' := 58) (as := [.int 110, .int 105, .int 103, .int 104]) (rest := [.long v0]) rfl rfl ((e_m_four_k110_105_103_104 (by omega) _) (468200) rfl) rfl ?_
      refine L_ld2 (pc' := 61) rfl q4_32 rfl ?_
      refine L_s (pc' := 62) rfl rfl ?_
      refine L_le (b := 14982400) (by decide) ?_
      refine L_ld2 (pc' := 65) rfl q4_116 rfl ?_
      refine L_s (pc' := 66) rfl rfl ?_
      refine L_le (b := 14982516) (by decide) ?_
      refine L_ld2 (pc' := 69) rfl q4_96 rfl ?_
      refine L_s (pc' := 70) rfl rfl ?_
      refine L_le (b := 14982420) (by decide) ?_
      refine L_s (pc' := 71) rfl rfl ?_
      refine L_br (t := 76) (n := 74) rfl rfl (fun _ => ?_) (fun _ => ?_)
      · refine L_s (pc' := 77) rfl rfl ?_
        refine L_bi (pc' := 79) rfl q2_102 rfl ?_
        refine L_bi (pc' := 81) rfl q2_97 rfl ?_
        refine L_bi (pc' := 83) rfl q2_114 rfl ?_
        refine L_kj (pc' := 86) (as := [.int 102, .int 97, .int 114]) (rest := [.long v0]) rfl rfl ((e_m_three_k102_97_114 (by omega) _) (6194) rfl) rfl ?_
        refine L_s (pc' := 87) rfl rfl ?_
        refine L_br (t := 92) (n := 90) rfl rfl (fun _ => ?_) (fun _ => ?_)
        · refine L_s (pc' := 93) rfl rfl ?_
          refine L_bi (pc' := 95) rfl q2_104 rfl ?_
          refine L_bi (pc' := 97) rfl q2_111 rfl ?_
          refine L_bi (pc' := 99) rfl q2_108 rfl ?_
          refine L_kj (pc' := 102) (as := [.int 104, .int 111, .int 108]) (rest := [.long v0]) rfl rfl ((e_m_three_k104_111_108 (by omega) _) (8684) rfl) rfl ?_
          refine L_ld2 (pc' := 105) rfl q4_32768 rfl ?_
          refine L_s (pc' := 106) rfl rfl ?_
          refine L_le (b := 284557312) (by decide) ?_
          refine L_bi (pc' := 108) rfl q2_100 rfl ?_
          refine L_bi (pc' := 110) rfl q2_101 rfl ?_
          refine L_bi (pc' := 112) rfl q2_114 rfl ?_
          refine L_kj (pc' := 115) (as := [.int 100, .int 101, .int 114]) (rest := [.long 284557312, .long v0]) rfl rfl ((e_m_three_k100_101_114 (by omega) _) (4274) rfl) rfl ?_
          refine L_s (pc' := 116) rfl rfl ?_
          refine L_le (b := 284561586) (by decide) ?_
          refine L_s (pc' := 117) rfl rfl ?_
          refine L_br (t := 122) (n := 120) rfl rfl (fun _ => ?_) (fun _ => ?_)
          · refine L_s (pc' := 123) rfl rfl ?_
            refine L_bi (pc' := 125) rfl q2_111 rfl ?_
            refine L_bi (pc' := 127) rfl q2_119 rfl ?_
            refine L_bi (pc' := 129) rfl q2_101 rfl ?_
            refine L_bi (pc' := 131) rfl q2_100 rfl ?_
            refine L_kj (pc' := 134) (as := [.int 111, .int 119, .int 101, .int 100]) (rest := [.long v0]) rfl rfl ((e_m_four_k111_119_101_100 (by omega) _) (515236) rfl) rfl ?_
            refine L_s (pc' := 135) rfl rfl ?_
            refine L_br (t := 141) (n := 138) rfl rfl (fun _ => ?_) (fun _ => ?_)
            · refine L_s (pc' := 142) rfl rfl ?_
              refine L_bi (pc' := 144) rfl q2_119 rfl ?_
              refine L_bi (pc' := 146) rfl q2_101 rfl ?_
              refine L_bi (pc' := 148) rfl q2_105 rfl ?_
              refine L_kj (pc' := 151) (as := [.int 119, .int 101, .int 105]) (rest := [.long v0]) rfl rfl ((e_m_three_k119_101_105 (by omega) _) (23721) rfl) rfl ?_
              refine L_ld2 (pc' := 154) rfl q4_32768 rfl ?_
              refine L_s (pc' := 155) rfl rfl ?_
              refine L_le (b := 777289728) (by decide) ?_
              refine L_bi (pc' := 157) rfl q2_103 rfl ?_
              refine L_bi (pc' := 159) rfl q2_104 rfl ?_
              refine L_bi (pc' := 161) rfl q2_116 rfl ?_
              refine L_kj (pc' := 164) (as := [.int 103, .int 104, .int 116]) (rest := [.long 777289728, .long v0]) rfl rfl ((e_m_three_k103_104_116 (by omega) _) (7444) rfl) rfl ?_
              refine L_s (pc' := 165) rfl rfl ?_
              refine L_le (b := 777297172) (by decide) ?_
              refine L_s (pc' := 166) rfl rfl ?_
              refine L_br (t := 172) (n := 169) rfl rfl (fun _ => ?_) (fun _ => ?_)
              · refine L_s (pc' := 173) rfl rfl ?_
                refine L_bi (pc' := 175) rfl q2_99 rfl ?_
                refine L_bi (pc' := 177) rfl q2_117 rfl ?_
                refine L_bi (pc' := 179) rfl q2_116 rfl ?_
                refine L_kj (pc' := 182) (as := [.int 99, .int 117, .int 116]) (rest := [.long v0]) rfl rfl ((e_m_three_k99_117_116 (by omega) _) (3764) rfl) rfl ?_
                refine L_s (pc' := 183) rfl rfl ?_
                refine L_br (t := 189) (n := 186) rfl rfl (fun _ => ?_) (fun _ => ?_)
                · refine L_s (pc' := 190) rfl rfl ?_
                  refine L_bi (pc' := 192) rfl q2_102 rfl ?_
                  refine L_bi (pc' := 194) rfl q2_114 rfl ?_
                  refine L_bi (pc' := 196) rfl q2_101 rfl ?_
                  refine L_bi (pc' := 198) rfl q2_101 rfl ?_
                  refine L_kj (pc' := 201) (as := [.int 102, .int 114, .int 101, .int 101]) (rest := [.long v0]) rfl rfl ((e_m_four_k102_114_101_101 (by omega) _) (215205) rfl) rfl ?_
                  refine L_s (pc' := 202) rfl rfl ?_
                  refine L_br (t := 208) (n := 205) rfl rfl (fun _ => ?_) (fun _ => ?_)
                  · refine L_s (pc' := 209) rfl rfl ?_
                    refine L_ld2 (pc' := 212) rfl q4_294 rfl ?_
                    refine L_s (pc' := 213) rfl rfl ?_
                    refine L_br (t := 219) (n := 216) rfl rfl (fun _ => ?_) (fun _ => ?_)
                    · refine L_s (pc' := 220) rfl rfl ?_
                      refine L_bi (pc' := 222) rfl q2_97 rfl ?_
                      refine L_bi (pc' := 224) rfl q2_110 rfl ?_
                      refine L_bi (pc' := 226) rfl q2_100 rfl ?_
                      refine L_kj (pc' := 229) (as := [.int 97, .int 110, .int 100]) (rest := [.long v0]) rfl rfl ((e_m_three_k97_110_100 (by omega) _) (1476) rfl) rfl ?_
                      refine L_s (pc' := 230) rfl rfl ?_
                      refine L_br (t := 236) (n := 233) rfl rfl (fun _ => ?_) (fun _ => ?_)
                      · refine L_s (pc' := 237) rfl rfl ?_
                        refine L_bi (pc' := 239) rfl q2_110 rfl ?_
                        refine L_bi (pc' := 241) rfl q2_111 rfl ?_
                        refine L_bi (pc' := 243) rfl q2_116 rfl ?_
                        refine L_kj (pc' := 246) (as := [.int 110, .int 111, .int 116]) (rest := [.long v0]) rfl rfl ((e_m_three_k110_111_116 (by omega) _) (14836) rfl) rfl ?_
                        refine L_s (pc' := 247) rfl rfl ?_
                        refine L_br (t := 253) (n := 250) rfl rfl (fun _ => ?_) (fun _ => ?_)
                        · refine L_bi (pc' := 255) rfl q2_99 rfl ?_
                          exact L_ret rfl ret_i rfl
                        · refine L_bi (pc' := 252) rfl q2_32 rfl ?_
                          exact L_ret rfl ret_i rfl
                      · refine L_bi (pc' := 235) rfl q2_31 rfl ?_
                        exact L_ret rfl ret_i rfl
                    · refine L_bi (pc' := 218) rfl q2_30 rfl ?_
                      exact L_ret rfl ret_i rfl
                  · refine L_bi (pc' := 207) rfl q2_22 rfl ?_
                    exact L_ret rfl ret_i rfl
                · refine L_bi (pc' := 188) rfl q2_21 rfl ?_
                  exact L_ret rfl ret_i rfl
              · refine L_bi (pc' := 171) rfl q2_20 rfl ?_
                exact L_ret rfl ret_i rfl
            · refine L_bi (pc' := 140) rfl q2_6 rfl ?_
              exact L_ret rfl ret_i rfl
          · refine L_ic (pc' := 121) rfl q1_5 rfl ?_
            exact L_ret rfl ret_i rfl
        · refine L_ic (pc' := 91) rfl q1_4 rfl ?_
          exact L_ret rfl ret_i rfl
      · refine L_ic (pc' := 75) rfl q1_3 rfl ?_
        exact L_ret rfl ret_i rfl
    · refine L_ic (pc' := 45) rfl q1_2 rfl ?_
      exact L_ret rfl ret_i rfl
  · refine L_ic (pc' := 15) rfl q1_1 rfl ?_
    exact L_ret rfl ret_i rfl
def m_advance_26 (k_0 : Sg → Option (Sg))  (g : Sg) : Option (Sg) :=
  lt1 (up2 g 215 4 ((g 215 4) + 1)) (fun g1 => (k_0 g1))
def m_advance_248 (k_198 : Sg → Option (Sg))  (g : Sg) : Option (Sg) :=
  lt1 (up2 g 215 4 ((g 215 4) + 1)) (fun g1 => (k_198 g1))
def m_advance_198 : Nat → Sg → Option (Sg)
  | 0, _ => none
  | n + 1, g =>
    Option.bind (m_byteAt (g 215 4) g) (fun x1 => Option.bind (m_isDigit x1 g) (fun x2 => (if x2 = 0 then
      (if ((g 215 4) - (g 215 5)) ≤ 4 then
        lt1 (up2 g 215 6 1) (fun g3 => (some g3))
      else
        lt1 (up2 g 215 6 4) (fun g4 => (some g4)))
    else
      (if 4 ≤ ((g 215 4) - (g 215 5)) then
        (m_advance_248 (fun g0 => m_advance_198 n g0) g)
      else
        Option.bind (m_byteAt (g 215 4) g) (fun x5 => lt1 (up2 g 215 7 (((10 * (g 215 7)) + x5) - 48)) (fun g6 => (m_advance_248 (fun g0 => m_advance_198 n g0) g6)))))))
def m_advance_162 (s0 : Int32) (g : Sg) : Option (Sg) :=
  lt1 (up2 g 215 9 s0) (fun g1 => (if ¬ (g1 215 9) = 99 then
    lt1 (up2 g1 215 6 3) (fun g2 => (some g2))
  else
    lt1 (up2 g1 215 6 4) (fun g3 => (some g3))))
def m_advance_125 (k_77 : Int64 → Sg → Option (Sg)) (v2 : Int64) (g : Sg) : Option (Sg) :=
  lt1 (up2 g 215 4 ((g 215 4) + 1)) (fun g1 => (k_77 v2 g1))
def m_advance_77 : Nat → Int64 → Sg → Option (Sg)
  | 0, _, _ => none
  | n + 1, v2, g =>
    Option.bind (m_byteAt (g 215 4) g) (fun x1 => Option.bind (m_isLetter x1 g) (fun x2 => (if x2 = 0 then
      (if ((g 215 4) - (g 215 5)) ≤ 6 then
        Option.bind (m_wordOf v2 g) (fun x3 => (m_advance_162 x3 g))
      else
        (m_advance_162 99 g))
    else
      (if 7 ≤ ((g 215 4) - (g 215 5)) then
        (m_advance_125 (fun v2 g0 => m_advance_77 n v2 g0) v2 g)
      else
        Option.bind (m_byteAt (g 215 4) g) (fun x4 => lt1 ((((32 * v2) + (Int32.toInt64 x4)) - 96) : Int64) (fun x5 => (m_advance_125 (fun v2 g0 => m_advance_77 n v2 g0) x5 g)))))))
def m_advance_0 (F : Nat) : Nat → Sg → Option (Sg)
  | 0, _ => none
  | n + 1, g =>
    Option.bind (m_byteAt (g 215 4) g) (fun x1 => (if x1 = 10 then
      (m_advance_26 (fun g0 => m_advance_0 F n g0) g)
    else
      Option.bind (m_byteAt (g 215 4) g) (fun x2 => (if ¬ x2 = 32 then
        lt1 (up2 g 215 5 (g 215 4)) (fun g3 => Option.bind (m_byteAt (g3 215 4) g3) (fun x4 => (if 0 ≤ x4 then
          Option.bind (m_isLetter x4 g3) (fun x5 => (if x5 = 0 then
            Option.bind (m_isDigit x4 g3) (fun x6 => (if x6 = 0 then
              lt1 (up2 g3 215 4 ((g3 215 4) + 1)) (fun g7 => lt1 (up2 g7 215 8 x4) (fun g8 => Option.bind (m_isSignByte x4 g8) (fun x9 => (if x9 = 0 then
                lt1 (up2 g8 215 6 4) (fun g10 => (some g10))
              else
                lt1 (up2 g8 215 6 2) (fun g11 => (some g11))))))
            else
              lt1 (up2 g3 215 7 0) (fun g12 => (m_advance_198 F g12))))
          else
            (m_advance_77 F 0 g3)))
        else
          lt1 (up2 g3 215 6 0) (fun g13 => (some g13)))))
      else
        (m_advance_26 (fun g0 => m_advance_0 F n g0) g)))))
def m_advance (F : Nat)  (g : Sg) : Option (Sg) :=
  (m_advance_0 F F g)
theorem p_m_advance_26 {X : Xx} {d : Nat} {k_0 : Sg → Option (Sg)} (hd : 3 ≤ d) (hk_0 : ∀ (g : Sg), Lt X d none k_196 (fun r : Sg => ((none, (SHF, r)) : Out)) 0 [some (.ref 215), none, none, none] [] g (k_0 g))  (g : Sg) : Lt X d none k_196 (fun r : Sg => ((none, (SHF, r)) : Out)) 26 [some (.ref 215), none, none, none] [] g (m_advance_26 k_0 g) := by
  unfold m_advance_26
  refine L_s (pc' := 27) rfl rfl ?_
  refine L_s (pc' := 28) rfl rfl ?_
  refine L_gf (pc' := 31) rfl fi_215_4 rfl ?_
  refine L_ic (pc' := 32) rfl q1_1 rfl ?_
  refine L_s (pc' := 33) rfl rfl ?_
  refine L_pf (pc' := 36) rfl sh_215 (by decide) rfl rfl ?_
  refine L_let fun g1 _ => ?_
  refine L_s (pc' := 0) rfl rfl ?_
  exact hk_0  _
set_option maxRecDepth 20000 in
theorem p_m_advance_248 {X : Xx} {d : Nat} {k_198 : Sg → Option (Sg)} (hd : 3 ≤ d) (hk_198 : ∀ (g : Sg), Lt X d none k_196 (fun r : Sg => ((none, (SHF, r)) : Out)) 198 [some (.ref 215), none, none, none] [] g (k_198 g))  (g : Sg) : Lt X d none k_196 (fun r : Sg => ((none, (SHF, r)) : Out)) 248 [some (.ref 215), none, none, none] [] g (m_advance_248 k_198 g) := by
  unfold m_advance_248
  refine L_s (pc' := 249) rfl rfl ?_
  refine L_s (pc' := 250) rfl rfl ?_
  refine L_gf (pc' := 253) rfl fi_215_4 rfl ?_
  refine L_ic (pc' := 254) rfl q1_1 rfl ?_
  refine L_s (pc' := 255) rfl rfl ?_
  refine L_pf (pc' := 258) rfl sh_215 (by decide) rfl rfl ?_
  refine L_let fun g1 _ => ?_
  refine L_s (pc' := 198) rfl rfl ?_
  exact hk_198  _
set_option maxRecDepth 20000 in
theorem p_m_advance_198 {X : Xx} {d : Nat} (hd : 3 ≤ d) : ∀ (n : Nat) (g : Sg), Lt X d none k_196 (fun r : Sg => ((none, (SHF, r)) : Out)) 198 [some (.ref 215), none, none, none] [] g (m_advance_198 n g) := by
  intro n
  induction n with
  | zero => intros; exact L_none
  | succ n ih =>
    intro g
    show Lt X d none k_196 (fun r : Sg => ((none, (SHF, r)) : Out)) 198 [some (.ref 215), none, none, none] [] g (
      Option.bind (m_byteAt (g 215 4) g) (fun x1 => Option.bind (m_isDigit x1 g) (fun x2 => (if x2 = 0 then
        (if ((g 215 4) - (g 215 5)) ≤ 4 then
          lt1 (up2 g 215 6 1) (fun g3 => (some g3))
        else
          lt1 (up2 g 215 6 4) (fun g4 => (some g4)))
      else
        (if 4 ≤ ((g 215 4) - (g 215 5)) then
          (m_advance_248 (fun g0 => m_advance_198 n g0) g)
        else
          Option.bind (m_byteAt (g 215 4) g) (fun x5 => lt1 (up2 g 215 7 (((10 * (g 215 7)) + x5) - 48)) (fun g6 => (m_advance_248 (fun g0 => m_advance_198 n g0) g6))))))))
    refine L_s (pc' := 199) rfl rfl ?_
    refine L_s (pc' := 200) rfl rfl ?_
    refine L_gf (pc' := 203) rfl fi_215_4 rfl ?_
    refine L_ci (pc' := 206) (as := [.ref 215, .int (g 215 4)]) (rest := []) rfl rfl (e_m_byteAt (by omega) _ _) rfl fun x1 => ?_
    refine L_ci (pc' := 209) (as := [.int x1]) (rest := []) rfl rfl (e_m_isDigit (by omega) _ _) rfl fun x2 => ?_
    refine L_br (t := 261) (n := 212) rfl rfl (fun _ => ?_) (fun _ => ?_)
    · refine L_s (pc' := 262) rfl rfl ?_
      refine L_s (pc' := 263) rfl rfl ?_
      refine L_gf (pc' := 266) rfl fi_215_4 rfl ?_
      refine L_s (pc' := 267) rfl rfl ?_
      refine L_gf (pc' := 270) rfl fi_215_5 rfl ?_
      refine L_s (pc' := 271) rfl rfl ?_
      refine L_ic (pc' := 272) rfl q1_4 rfl ?_
      refine L_br (t := 279) (n := 275) rfl rfl (fun _ => ?_) (fun _ => ?_)
      · refine L_ic (pc' := 280) rfl q1_1 rfl ?_
        refine L_pf (pc' := 283) rfl sh_215 (by decide) rfl rfl ?_
        refine L_let fun g3 _ => ?_
        refine L_s (pc' := 317) rfl rfl ?_
        exact L_ret rfl rfl rfl
      · refine L_ic (pc' := 276) rfl q1_4 rfl ?_
        refine L_s (pc' := 280) rfl rfl ?_
        refine L_pf (pc' := 283) rfl sh_215 (by decide) rfl rfl ?_
        refine L_let fun g4 _ => ?_
        refine L_s (pc' := 317) rfl rfl ?_
        exact L_ret rfl rfl rfl
    · refine L_s (pc' := 213) rfl rfl ?_
      refine L_gf (pc' := 216) rfl fi_215_4 rfl ?_
      refine L_s (pc' := 217) rfl rfl ?_
      refine L_gf (pc' := 220) rfl fi_215_5 rfl ?_
      refine L_s (pc' := 221) rfl rfl ?_
      refine L_ic (pc' := 222) rfl q1_4 rfl ?_
      refine L_br (t := 248) (n := 225) rfl rfl (fun _ => ?_) (fun _ => ?_)
      · exact p_m_advance_248 hd (fun  _ => ih  _) _
      · refine L_s (pc' := 226) rfl rfl ?_
        refine L_bi (pc' := 228) rfl q2_10 rfl ?_
        refine L_s (pc' := 229) rfl rfl ?_
        refine L_gf (pc' := 232) rfl fi_215_7 rfl ?_
        refine L_s (pc' := 233) rfl rfl ?_
        refine L_s (pc' := 234) rfl rfl ?_
        refine L_s (pc' := 235) rfl rfl ?_
        refine L_gf (pc' := 238) rfl fi_215_4 rfl ?_
        refine L_ci (pc' := 241) (as := [.ref 215, .int (g 215 4)]) (rest := [.int (10 * (g 215 7)), .ref 215]) rfl rfl (e_m_byteAt (by omega) _ _) rfl fun x5 => ?_
        refine L_s (pc' := 242) rfl rfl ?_
        refine L_bi (pc' := 244) rfl q2_48 rfl ?_
        refine L_s (pc' := 245) rfl rfl ?_
        refine L_pf (pc' := 248) rfl sh_215 (by decide) rfl rfl ?_
        refine L_let fun g6 _ => ?_
        exact p_m_advance_248 hd (fun  _ => ih  _) _
set_option maxRecDepth 20000 in
theorem p_m_advance_162 {X : Xx} {d : Nat} (hd : 3 ≤ d) (s0 : Int32) (g : Sg) : Lt X d none k_196 (fun r : Sg => ((none, (SHF, r)) : Out)) 162 [some (.ref 215), none, none, none] [.int s0, .ref 215] g (m_advance_162 s0 g) := by
  unfold m_advance_162
  refine L_pf (pc' := 165) rfl sh_215 (by decide) rfl rfl ?_
  refine L_let fun g1 _ => ?_
  refine L_s (pc' := 166) rfl rfl ?_
  refine L_s (pc' := 167) rfl rfl ?_
  refine L_gf (pc' := 170) rfl fi_215_9 rfl ?_
  refine L_bi (pc' := 172) rfl q2_99 rfl ?_
  refine L_br (t := 179) (n := 175) rfl rfl (fun _ => ?_) (fun _ => ?_)
  · refine L_ic (pc' := 180) rfl q1_3 rfl ?_
    refine L_pf (pc' := 183) rfl sh_215 (by decide) rfl rfl ?_
    refine L_let fun g2 _ => ?_
    refine L_s (pc' := 317) rfl rfl ?_
    exact L_ret rfl rfl rfl
  · refine L_ic (pc' := 176) rfl q1_4 rfl ?_
    refine L_s (pc' := 180) rfl rfl ?_
    refine L_pf (pc' := 183) rfl sh_215 (by decide) rfl rfl ?_
    refine L_let fun g3 _ => ?_
    refine L_s (pc' := 317) rfl rfl ?_
    exact L_ret rfl rfl rfl
theorem p_m_advance_125 {X : Xx} {d : Nat} {k_77 : Int64 → Sg → Option (Sg)} (hd : 3 ≤ d) (hk_77 : ∀ (v2 : Int64) (g : Sg), Lt X d none k_196 (fun r : Sg => ((none, (SHF, r)) : Out)) 77 [some (.ref 215), none, some (.long v2), none] [] g (k_77 v2 g)) (v2 : Int64) (g : Sg) : Lt X d none k_196 (fun r : Sg => ((none, (SHF, r)) : Out)) 125 [some (.ref 215), none, some (.long v2), none] [] g (m_advance_125 k_77 v2 g) := by
  unfold m_advance_125
  refine L_s (pc' := 126) rfl rfl ?_
  refine L_s (pc' := 127) rfl rfl ?_
  refine L_gf (pc' := 130) rfl fi_215_4 rfl ?_
  refine L_ic (pc' := 131) rfl q1_1 rfl ?_
  refine L_s (pc' := 132) rfl rfl ?_
  refine L_pf (pc' := 135) rfl sh_215 (by decide) rfl rfl ?_
  refine L_let fun g1 _ => ?_
  refine L_s (pc' := 77) rfl rfl ?_
  exact hk_77 _ _
theorem p_m_advance_77 {X : Xx} {d : Nat} (hd : 3 ≤ d) : ∀ (n : Nat) (v2 : Int64) (g : Sg), Lt X d none k_196 (fun r : Sg => ((none, (SHF, r)) : Out)) 77 [some (.ref 215), none, some (.long v2), none] [] g (m_advance_77 n v2 g) := by
  intro n
  induction n with
  | zero => intros; exact L_none
  | succ n ih =>
    intro v2 g
    show Lt X d none k_196 (fun r : Sg => ((none, (SHF, r)) : Out)) 77 [some (.ref 215), none, some (.long v2), none] [] g (
      Option.bind (m_byteAt (g 215 4) g) (fun x1 => Option.bind (m_isLetter x1 g) (fun x2 => (if x2 = 0 then
        (if ((g 215 4) - (g 215 5)) ≤ 6 then
          Option.bind (m_wordOf v2 g) (fun x3 => (m_advance_162 x3 g))
        else
          (m_advance_162 99 g))
      else
        (if 7 ≤ ((g 215 4) - (g 215 5)) then
          (m_advance_125 (fun v2 g0 => m_advance_77 n v2 g0) v2 g)
        else
          Option.bind (m_byteAt (g 215 4) g) (fun x4 => lt1 ((((32 * v2) + (Int32.toInt64 x4)) - 96) : Int64) (fun x5 => (m_advance_125 (fun v2 g0 => m_advance_77 n v2 g0) x5 g))))))))
    refine L_s (pc' := 78) rfl rfl ?_
    refine L_s (pc' := 79) rfl rfl ?_
    refine L_gf (pc' := 82) rfl fi_215_4 rfl ?_
    refine L_ci (pc' := 85) (as := [.ref 215, .int (g 215 4)]) (rest := []) rfl rfl (e_m_byteAt (by omega) _ _) rfl fun x1 => ?_
    refine L_ci (pc' := 88) (as := [.int x1]) (rest := []) rfl rfl (e_m_isLetter (by omega) _ _) rfl fun x2 => ?_
    refine L_br (t := 138) (n := 91) rfl rfl (fun _ => ?_) (fun _ => ?_)
    · refine L_s (pc' := 139) rfl rfl ?_
      refine L_s (pc' := 140) rfl rfl ?_
      refine L_gf (pc' := 143) rfl fi_215_4 rfl ?_
      refine L_s (pc' := 144) rfl rfl ?_
      refine L_gf (pc' := 147) rfl fi_215_5 rfl ?_
      refine L_s (pc' := 148) rfl rfl ?_
      refine L_bi (pc' := 150) rfl q2_6 rfl ?_
      refine L_br (t := 158) (n := 153) rfl rfl (fun _ => ?_) (fun _ => ?_)
      · refine L_s (pc' := 159) rfl rfl ?_
        refine L_ci (pc' := 162) (as := [.long v2]) (rest := [.ref 215]) rfl rfl (e_m_wordOf (by omega) _ _) rfl fun x3 => ?_
        refine L_wk (L' := [some (.ref 215), none, none, none]) (wk_s (wk_s (wk_n (wk_s wk_nil)))) ?_
        exact p_m_advance_162 hd _ _
      · refine L_bi (pc' := 155) rfl q2_99 rfl ?_
        refine L_s (pc' := 162) rfl rfl ?_
        refine L_wk (L' := [some (.ref 215), none, none, none]) (wk_s (wk_s (wk_n (wk_s wk_nil)))) ?_
        exact p_m_advance_162 hd _ _
    · refine L_s (pc' := 92) rfl rfl ?_
      refine L_gf (pc' := 95) rfl fi_215_4 rfl ?_
      refine L_s (pc' := 96) rfl rfl ?_
      refine L_gf (pc' := 99) rfl fi_215_5 rfl ?_
      refine L_s (pc' := 100) rfl rfl ?_
      refine L_bi (pc' := 102) rfl q2_7 rfl ?_
      refine L_br (t := 125) (n := 105) rfl rfl (fun _ => ?_) (fun _ => ?_)
      · exact p_m_advance_125 hd (fun _ _ => ih _ _) _ _
      · refine L_ld2 (pc' := 108) rfl q4_32 rfl ?_
        refine L_s (pc' := 109) rfl rfl ?_
        refine L_s (pc' := 110) rfl rfl ?_
        refine L_s (pc' := 111) rfl rfl ?_
        refine L_s (pc' := 112) rfl rfl ?_
        refine L_gf (pc' := 115) rfl fi_215_4 rfl ?_
        refine L_ci (pc' := 118) (as := [.ref 215, .int (g 215 4)]) (rest := [.long (32 * v2)]) rfl rfl (e_m_byteAt (by omega) _ _) rfl fun x4 => ?_
        refine L_s (pc' := 119) rfl rfl ?_
        refine L_s (pc' := 120) rfl rfl ?_
        refine L_ld2 (pc' := 123) rfl q4_96 rfl ?_
        refine L_s (pc' := 124) rfl rfl ?_
        refine L_ll fun x5 _ => ?_
        refine L_s (pc' := 125) (L' := [some (.ref 215), none, some (.long x5), none]) rfl rfl ?_
        exact p_m_advance_125 hd (fun _ _ => ih _ _) _ _
set_option maxRecDepth 20000 in
theorem p_m_advance_0 {X : Xx} {d : Nat} (hd : 3 ≤ d) (F : Nat) : ∀ (n : Nat) (g : Sg), Lt X d none k_196 (fun r : Sg => ((none, (SHF, r)) : Out)) 0 [some (.ref 215), none, none, none] [] g (m_advance_0 F n g) := by
  intro n
  induction n with
  | zero => intros; exact L_none
  | succ n ih =>
    intro g
    show Lt X d none k_196 (fun r : Sg => ((none, (SHF, r)) : Out)) 0 [some (.ref 215), none, none, none] [] g (
      Option.bind (m_byteAt (g 215 4) g) (fun x1 => (if x1 = 10 then
        (m_advance_26 (fun g0 => m_advance_0 F n g0) g)
      else
        Option.bind (m_byteAt (g 215 4) g) (fun x2 => (if ¬ x2 = 32 then
          lt1 (up2 g 215 5 (g 215 4)) (fun g3 => Option.bind (m_byteAt (g3 215 4) g3) (fun x4 => (if 0 ≤ x4 then
            Option.bind (m_isLetter x4 g3) (fun x5 => (if x5 = 0 then
              Option.bind (m_isDigit x4 g3) (fun x6 => (if x6 = 0 then
                lt1 (up2 g3 215 4 ((g3 215 4) + 1)) (fun g7 => lt1 (up2 g7 215 8 x4) (fun g8 => Option.bind (m_isSignByte x4 g8) (fun x9 => (if x9 = 0 then
                  lt1 (up2 g8 215 6 4) (fun g10 => (some g10))
                else
                  lt1 (up2 g8 215 6 2) (fun g11 => (some g11))))))
              else
                lt1 (up2 g3 215 7 0) (fun g12 => (m_advance_198 F g12))))
            else
              (m_advance_77 F 0 g3)))
          else
            lt1 (up2 g3 215 6 0) (fun g13 => (some g13)))))
        else
          (m_advance_26 (fun g0 => m_advance_0 F n g0) g))))))
    refine L_s (pc' := 1) rfl rfl ?_
    refine L_s (pc' := 2) rfl rfl ?_
    refine L_gf (pc' := 5) rfl fi_215_4 rfl ?_
    refine L_ci (pc' := 8) (as := [.ref 215, .int (g 215 4)]) (rest := []) rfl rfl (e_m_byteAt (by omega) _ _) rfl fun x1 => ?_
    refine L_bi (pc' := 10) rfl q2_10 rfl ?_
    refine L_br (t := 26) (n := 13) rfl rfl (fun _ => ?_) (fun _ => ?_)
    · exact p_m_advance_26 hd (fun  _ => ih  _) _
    · refine L_s (pc' := 14) rfl rfl ?_
      refine L_s (pc' := 15) rfl rfl ?_
      refine L_gf (pc' := 18) rfl fi_215_4 rfl ?_
      refine L_ci (pc' := 21) (as := [.ref 215, .int (g 215 4)]) (rest := []) rfl rfl (e_m_byteAt (by omega) _ _) rfl fun x2 => ?_
      refine L_bi (pc' := 23) rfl q2_32 rfl ?_
      refine L_br (t := 39) (n := 26) rfl rfl (fun _ => ?_) (fun _ => ?_)
      · refine L_s (pc' := 40) rfl rfl ?_
        refine L_s (pc' := 41) rfl rfl ?_
        refine L_gf (pc' := 44) rfl fi_215_4 rfl ?_
        refine L_pf (pc' := 47) rfl sh_215 (by decide) rfl rfl ?_
        refine L_let fun g3 _ => ?_
        refine L_s (pc' := 48) rfl rfl ?_
        refine L_s (pc' := 49) rfl rfl ?_
        refine L_gf (pc' := 52) rfl fi_215_4 rfl ?_
        refine L_ci (pc' := 55) (as := [.ref 215, .int (g3 215 4)]) (rest := []) rfl rfl (e_m_byteAt (by omega) _ _) rfl fun x4 => ?_
        refine L_s (pc' := 56) (L' := [some (.ref 215), some (.int x4), none, none]) rfl rfl ?_
        refine L_s (pc' := 57) rfl rfl ?_
        refine L_br (t := 68) (n := 60) rfl rfl (fun _ => ?_) (fun _ => ?_)
        · refine L_s (pc' := 69) rfl rfl ?_
          refine L_ci (pc' := 72) (as := [.int x4]) (rest := []) rfl rfl (e_m_isLetter (by omega) _ _) rfl fun x5 => ?_
          refine L_br (t := 186) (n := 75) rfl rfl (fun _ => ?_) (fun _ => ?_)
          · refine L_s (pc' := 187) rfl rfl ?_
            refine L_ci (pc' := 190) (as := [.int x4]) (rest := []) rfl rfl (e_m_isDigit (by omega) _ _) rfl fun x6 => ?_
            refine L_br (t := 286) (n := 193) rfl rfl (fun _ => ?_) (fun _ => ?_)
            · refine L_s (pc' := 287) rfl rfl ?_
              refine L_s (pc' := 288) rfl rfl ?_
              refine L_gf (pc' := 291) rfl fi_215_4 rfl ?_
              refine L_ic (pc' := 292) rfl q1_1 rfl ?_
              refine L_s (pc' := 293) rfl rfl ?_
              refine L_pf (pc' := 296) rfl sh_215 (by decide) rfl rfl ?_
              refine L_let fun g7 _ => ?_
              refine L_s (pc' := 297) rfl rfl ?_
              refine L_s (pc' := 298) rfl rfl ?_
              refine L_pf (pc' := 301) rfl sh_215 (by decide) rfl rfl ?_
              refine L_let fun g8 _ => ?_
              refine L_s (pc' := 302) rfl rfl ?_
              refine L_s (pc' := 303) rfl rfl ?_
              refine L_ci (pc' := 306) (as := [.int x4]) (rest := [.ref 215]) rfl rfl (e_m_isSignByte (by omega) _ _) rfl fun x9 => ?_
              refine L_br (t := 313) (n := 309) rfl rfl (fun _ => ?_) (fun _ => ?_)
              · refine L_ic (pc' := 314) rfl q1_4 rfl ?_
                refine L_pf (pc' := 317) rfl sh_215 (by decide) rfl rfl ?_
                refine L_let fun g10 _ => ?_
                exact L_ret rfl rfl rfl
              · refine L_ic (pc' := 310) rfl q1_2 rfl ?_
                refine L_s (pc' := 314) rfl rfl ?_
                refine L_pf (pc' := 317) rfl sh_215 (by decide) rfl rfl ?_
                refine L_let fun g11 _ => ?_
                exact L_ret rfl rfl rfl
            · refine L_s (pc' := 194) rfl rfl ?_
              refine L_ic (pc' := 195) rfl q1_0 rfl ?_
              refine L_pf (pc' := 198) rfl sh_215 (by decide) rfl rfl ?_
              refine L_let fun g12 _ => ?_
              refine L_wk (L' := [some (.ref 215), none, none, none]) (wk_s (wk_n (wk_s (wk_s wk_nil)))) ?_
              exact p_m_advance_198 hd F _
          · refine L_s (pc' := 76) (st' := [.long 0]) rfl rfl ?_
            refine L_s (pc' := 77) (L' := [some (.ref 215), some (.int x4), some (.long 0), none]) rfl rfl ?_
            refine L_wk (L' := [some (.ref 215), none, some (.long 0), none]) (wk_s (wk_n (wk_s (wk_s wk_nil)))) ?_
            exact p_m_advance_77 hd F _ _
        · refine L_s (pc' := 61) rfl rfl ?_
          refine L_ic (pc' := 62) rfl q1_0 rfl ?_
          refine L_pf (pc' := 65) rfl sh_215 (by decide) rfl rfl ?_
          refine L_let fun g13 _ => ?_
          refine L_s (pc' := 317) rfl rfl ?_
          exact L_ret rfl rfl rfl
      · exact p_m_advance_26 hd (fun  _ => ih  _) _
theorem e_m_advance {X : Xx} {d : Nat} (hd : 4 ≤ d) (F : Nat)  (g : Sg) : ∀ r, m_advance F  g = some r → EvM zft mtl X d 196 [.ref 215] (SHF, g) ((fun r : Sg => ((none, (SHF, r)) : Out)) r) := by
  obtain ⟨d, rfl⟩ : ∃ d0, d = d0 + 1 := ⟨d - 1, by omega⟩
  have hd : 3 ≤ d := by omega
  refine E_in (f := (fun r : Sg => ((none, (SHF, r)) : Out))) rfl (Nat.le_of_ble_eq_true rfl) ?_
  unfold m_advance
  change Lt X d none k_196 _ 0 [some (.ref 215), none, none, none] [] g _
  exact p_m_advance_0 hd F F _
def m_takes (F : Nat) (v1 : Int32) (g : Sg) : Option (Int32 × Sg) :=
  (if ¬ (g 215 10) = 0 then
    (some (0, g))
  else
    (if ¬ (g 215 6) = 3 then
      (some (0, g))
    else
      (if (g 215 9) = v1 then
        Option.bind (m_advance F g) (fun g1 => (some (1, g1)))
      else
        (some (0, g)))))
theorem e_m_takes {X : Xx} {d : Nat} (hd : 5 ≤ d) (F : Nat) (v1 : Int32) (g : Sg) : ∀ r, m_takes F v1 g = some r → EvM zft mtl X d 199 [.ref 215, .int v1] (SHF, g) ((fun r : Int32 × Sg => ((some (.int r.1), (SHF, r.2)) : Out)) r) := by
  obtain ⟨d, rfl⟩ : ∃ d0, d = d0 + 1 := ⟨d - 1, by omega⟩
  have hd : 4 ≤ d := by omega
  refine E_in (f := (fun r : Int32 × Sg => ((some (.int r.1), (SHF, r.2)) : Out))) rfl (Nat.le_of_ble_eq_true rfl) ?_
  unfold m_takes
  change Lt X d (some .boolean) k_199 _ 0 [some (.ref 215), some (.int v1)] [] g _
  refine L_s (pc' := 1) rfl rfl ?_
  refine L_gf (pc' := 4) rfl fi_215_10 rfl ?_
  refine L_br (t := 23) (n := 7) rfl rfl (fun _ => ?_) (fun _ => ?_)
  · refine L_ic (pc' := 24) rfl q1_0 rfl ?_
    exact L_ret rfl (ret_z (by decide)) rfl
  · refine L_s (pc' := 8) rfl rfl ?_
    refine L_gf (pc' := 11) rfl fi_215_6 rfl ?_
    refine L_ic (pc' := 12) rfl q1_3 rfl ?_
    refine L_br (t := 23) (n := 15) rfl rfl (fun _ => ?_) (fun _ => ?_)
    · refine L_ic (pc' := 24) rfl q1_0 rfl ?_
      exact L_ret rfl (ret_z (by decide)) rfl
    · refine L_s (pc' := 16) rfl rfl ?_
      refine L_gf (pc' := 19) rfl fi_215_9 rfl ?_
      refine L_s (pc' := 20) rfl rfl ?_
      refine L_br (t := 25) (n := 23) rfl rfl (fun _ => ?_) (fun _ => ?_)
      · refine L_s (pc' := 26) rfl rfl ?_
        refine L_cv (pc' := 29) (as := [.ref 215]) (rest := []) rfl rfl (e_m_advance (by omega) F _) rfl fun g1 => ?_
        refine L_ic (pc' := 30) rfl q1_1 rfl ?_
        exact L_ret rfl (ret_z (by decide)) rfl
      · refine L_ic (pc' := 24) rfl q1_0 rfl ?_
        exact L_ret rfl (ret_z (by decide)) rfl
def m_stops  (g : Sg) : Option (Sg) :=
  (if (g 215 10) = 0 then
    lt1 (up2 g 215 10 1) (fun g1 => lt1 (up2 g1 216 8 1) (fun g2 => lt1 (up2 g2 216 9 (g2 215 5)) (fun g3 => (some g3))))
  else
    (some g))
theorem e_m_stops {X : Xx} {d : Nat} (hd : 1 ≤ d)  (g : Sg) : ∀ r, m_stops  g = some r → EvM zft mtl X d 197 [.ref 215] (SHF, g) ((fun r : Sg => ((none, (SHF, r)) : Out)) r) := by
  obtain ⟨d, rfl⟩ : ∃ d0, d = d0 + 1 := ⟨d - 1, by omega⟩
  have hd : 0 ≤ d := by omega
  refine E_in (f := (fun r : Sg => ((none, (SHF, r)) : Out))) rfl (Nat.le_of_ble_eq_true rfl) ?_
  unfold m_stops
  change Lt X d none k_197 _ 0 [some (.ref 215)] [] g _
  refine L_s (pc' := 1) rfl rfl ?_
  refine L_gf (pc' := 4) rfl fi_215_10 rfl ?_
  refine L_br (t := 8) (n := 7) rfl rfl (fun _ => ?_) (fun _ => ?_)
  · refine L_s (pc' := 9) rfl rfl ?_
    refine L_ic (pc' := 10) rfl q1_1 rfl ?_
    refine L_pz (pc' := 13) rfl sh_215 (by decide) rfl (by decide) rfl ?_
    refine L_let fun g1 _ => ?_
    refine L_s (pc' := 14) rfl rfl ?_
    refine L_gf (pc' := 17) rfl fr_215_0 rfl ?_
    refine L_bi (pc' := 19) rfl q2_8 rfl ?_
    refine L_ic (pc' := 20) rfl q1_1 rfl ?_
    refine L_wIk (pc' := 21) (j := 8) rfl sh_216 (by decide) (by decide) (by decide) rfl ?_
    refine L_let fun g2 _ => ?_
    refine L_s (pc' := 22) rfl rfl ?_
    refine L_gf (pc' := 25) rfl fr_215_0 rfl ?_
    refine L_bi (pc' := 27) rfl q2_9 rfl ?_
    refine L_s (pc' := 28) rfl rfl ?_
    refine L_gf (pc' := 31) rfl fi_215_5 rfl ?_
    refine L_wIk (pc' := 32) (j := 9) rfl sh_216 (by decide) (by decide) (by decide) rfl ?_
    refine L_let fun g3 _ => ?_
    exact L_ret rfl rfl rfl
  · exact L_ret rfl rfl rfl
def m_numbered (F : Nat)  (g : Sg) : Option (Int32 × Sg) :=
  lt1 ((g 215 7) : Int32) (fun x1 => (if ¬ (g 215 10) = 0 then
    Option.bind (m_stops g) (fun g2 => (some (x1, g2)))
  else
    (if ¬ (g 215 6) = 1 then
      Option.bind (m_stops g) (fun g3 => (some (x1, g3)))
    else
      Option.bind (m_advance F g) (fun g4 => (some (x1, g4))))))
theorem e_m_numbered {X : Xx} {d : Nat} (hd : 5 ≤ d) (F : Nat)  (g : Sg) : ∀ r, m_numbered F  g = some r → EvM zft mtl X d 201 [.ref 215] (SHF, g) ((fun r : Int32 × Sg => ((some (.int r.1), (SHF, r.2)) : Out)) r) := by
  obtain ⟨d, rfl⟩ : ∃ d0, d = d0 + 1 := ⟨d - 1, by omega⟩
  have hd : 4 ≤ d := by omega
  refine E_in (f := (fun r : Int32 × Sg => ((some (.int r.1), (SHF, r.2)) : Out))) rfl (Nat.le_of_ble_eq_true rfl) ?_
  unfold m_numbered
  change Lt X d (some .int) k_201 _ 0 [some (.ref 215), none] [] g _
  refine L_s (pc' := 1) rfl rfl ?_
  refine L_gf (pc' := 4) rfl fi_215_7 rfl ?_
  refine L_li fun x1 _ => ?_
  refine L_s (pc' := 5) (L' := [some (.ref 215), some (.int x1)]) rfl rfl ?_
  refine L_s (pc' := 6) rfl rfl ?_
  refine L_gf (pc' := 9) rfl fi_215_10 rfl ?_
  refine L_br (t := 27) (n := 12) rfl rfl (fun _ => ?_) (fun _ => ?_)
  · refine L_s (pc' := 28) rfl rfl ?_
    refine L_cv (pc' := 31) (as := [.ref 215]) (rest := []) rfl rfl (e_m_stops (by omega) _) rfl fun g2 => ?_
    refine L_s (pc' := 32) rfl rfl ?_
    exact L_ret rfl ret_i rfl
  · refine L_s (pc' := 13) rfl rfl ?_
    refine L_gf (pc' := 16) rfl fi_215_6 rfl ?_
    refine L_ic (pc' := 17) rfl q1_1 rfl ?_
    refine L_br (t := 27) (n := 20) rfl rfl (fun _ => ?_) (fun _ => ?_)
    · refine L_s (pc' := 28) rfl rfl ?_
      refine L_cv (pc' := 31) (as := [.ref 215]) (rest := []) rfl rfl (e_m_stops (by omega) _) rfl fun g3 => ?_
      refine L_s (pc' := 32) rfl rfl ?_
      exact L_ret rfl ret_i rfl
    · refine L_s (pc' := 21) rfl rfl ?_
      refine L_cv (pc' := 24) (as := [.ref 215]) (rest := []) rfl rfl (e_m_advance (by omega) F _) rfl fun g4 => ?_
      refine L_s (pc' := 31) rfl rfl ?_
      refine L_s (pc' := 32) rfl rfl ?_
      exact L_ret rfl ret_i rfl
def m_must (F : Nat) (v1 : Int32) (g : Sg) : Option (Sg) :=
  (if ¬ (g 215 10) = 0 then
    Option.bind (m_stops g) (fun g1 => (some g1))
  else
    (if ¬ (g 215 6) = 2 then
      Option.bind (m_stops g) (fun g2 => (some g2))
    else
      (if ¬ (g 215 8) = v1 then
        Option.bind (m_stops g) (fun g3 => (some g3))
      else
        Option.bind (m_advance F g) (fun g4 => (some g4)))))
theorem e_m_must {X : Xx} {d : Nat} (hd : 5 ≤ d) (F : Nat) (v1 : Int32) (g : Sg) : ∀ r, m_must F v1 g = some r → EvM zft mtl X d 200 [.ref 215, .int v1] (SHF, g) ((fun r : Sg => ((none, (SHF, r)) : Out)) r) := by
  obtain ⟨d, rfl⟩ : ∃ d0, d = d0 + 1 := ⟨d - 1, by omega⟩
  have hd : 4 ≤ d := by omega
  refine E_in (f := (fun r : Sg => ((none, (SHF, r)) : Out))) rfl (Nat.le_of_ble_eq_true rfl) ?_
  unfold m_must
  change Lt X d none k_200 _ 0 [some (.ref 215), some (.int v1)] [] g _
  refine L_s (pc' := 1) rfl rfl ?_
  refine L_gf (pc' := 4) rfl fi_215_10 rfl ?_
  refine L_br (t := 30) (n := 7) rfl rfl (fun _ => ?_) (fun _ => ?_)
  · refine L_s (pc' := 31) rfl rfl ?_
    refine L_cv (pc' := 34) (as := [.ref 215]) (rest := []) rfl rfl (e_m_stops (by omega) _) rfl fun g1 => ?_
    exact L_ret rfl rfl rfl
  · refine L_s (pc' := 8) rfl rfl ?_
    refine L_gf (pc' := 11) rfl fi_215_6 rfl ?_
    refine L_ic (pc' := 12) rfl q1_2 rfl ?_
    refine L_br (t := 30) (n := 15) rfl rfl (fun _ => ?_) (fun _ => ?_)
    · refine L_s (pc' := 31) rfl rfl ?_
      refine L_cv (pc' := 34) (as := [.ref 215]) (rest := []) rfl rfl (e_m_stops (by omega) _) rfl fun g2 => ?_
      exact L_ret rfl rfl rfl
    · refine L_s (pc' := 16) rfl rfl ?_
      refine L_gf (pc' := 19) rfl fi_215_8 rfl ?_
      refine L_s (pc' := 20) rfl rfl ?_
      refine L_br (t := 30) (n := 23) rfl rfl (fun _ => ?_) (fun _ => ?_)
      · refine L_s (pc' := 31) rfl rfl ?_
        refine L_cv (pc' := 34) (as := [.ref 215]) (rest := []) rfl rfl (e_m_stops (by omega) _) rfl fun g3 => ?_
        exact L_ret rfl rfl rfl
      · refine L_s (pc' := 24) rfl rfl ?_
        refine L_cv (pc' := 27) (as := [.ref 215]) (rest := []) rfl rfl (e_m_advance (by omega) F _) rfl fun g4 => ?_
        refine L_s (pc' := 34) rfl rfl ?_
        exact L_ret rfl rfl rfl
def m_puts (v1 : Int32) (v2 : Int32) (g : Sg) : Option (Sg) :=
  (if 16 ≤ (g 215 11) then
    (some g)
  else
    (if inb ((20 * (g 215 11)) + v1) 320 = true then lt1 (up2 g 219 (Int32.toNatClampNeg ((20 * (g 215 11)) + v1)) v2) (fun g1 => (some g1)) else none))
theorem e_m_puts {X : Xx} {d : Nat} (hd : 1 ≤ d) (v1 : Int32) (v2 : Int32) (g : Sg) : ∀ r, m_puts v1 v2 g = some r → EvM zft mtl X d 203 [.ref 215, .int v1, .int v2] (SHF, g) ((fun r : Sg => ((none, (SHF, r)) : Out)) r) := by
  obtain ⟨d, rfl⟩ : ∃ d0, d = d0 + 1 := ⟨d - 1, by omega⟩
  have hd : 0 ≤ d := by omega
  refine E_in (f := (fun r : Sg => ((none, (SHF, r)) : Out))) rfl (Nat.le_of_ble_eq_true rfl) ?_
  unfold m_puts
  change Lt X d none k_203 _ 0 [some (.ref 215), some (.int v1), some (.int v2)] [] g _
  refine L_s (pc' := 1) rfl rfl ?_
  refine L_gf (pc' := 4) rfl fi_215_11 rfl ?_
  refine L_bi (pc' := 6) rfl q2_16 rfl ?_
  refine L_br (t := 24) (n := 9) rfl rfl (fun _ => ?_) (fun _ => ?_)
  · exact L_ret rfl rfl rfl
  · refine L_s (pc' := 10) rfl rfl ?_
    refine L_gf (pc' := 13) rfl fr_215_12 rfl ?_
    refine L_bi (pc' := 15) rfl q2_20 rfl ?_
    refine L_s (pc' := 16) rfl rfl ?_
    refine L_gf (pc' := 19) rfl fi_215_11 rfl ?_
    refine L_s (pc' := 20) rfl rfl ?_
    refine L_s (pc' := 21) rfl rfl ?_
    refine L_s (pc' := 22) rfl rfl ?_
    refine L_s (pc' := 23) rfl rfl ?_
    refine L_wI (pc' := 24) rfl sh_219 (by decide) rfl ?_
    refine L_let fun g1 _ => ?_
    exact L_ret rfl rfl rfl
def m_also (v1 : Int32) (v2 : Int32) (g : Sg) : Option (Sg) :=
  (if ¬ (g 215 10) = 0 then
    (some g)
  else
    (if (g 216 8) = 0 then
      lt1 (up2 g 216 8 v1) (fun g1 => lt1 (up2 g1 216 9 v2) (fun g2 => (some g2)))
    else
      (some g)))
theorem e_m_also {X : Xx} {d : Nat} (hd : 1 ≤ d) (v1 : Int32) (v2 : Int32) (g : Sg) : ∀ r, m_also v1 v2 g = some r → EvM zft mtl X d 198 [.ref 215, .int v1, .int v2] (SHF, g) ((fun r : Sg => ((none, (SHF, r)) : Out)) r) := by
  obtain ⟨d, rfl⟩ : ∃ d0, d = d0 + 1 := ⟨d - 1, by omega⟩
  have hd : 0 ≤ d := by omega
  refine E_in (f := (fun r : Sg => ((none, (SHF, r)) : Out))) rfl (Nat.le_of_ble_eq_true rfl) ?_
  unfold m_also
  change Lt X d none k_198 _ 0 [some (.ref 215), some (.int v1), some (.int v2)] [] g _
  refine L_s (pc' := 1) rfl rfl ?_
  refine L_gf (pc' := 4) rfl fi_215_10 rfl ?_
  refine L_br (t := 17) (n := 7) rfl rfl (fun _ => ?_) (fun _ => ?_)
  · exact L_ret rfl rfl rfl
  · refine L_s (pc' := 8) rfl rfl ?_
    refine L_gf (pc' := 11) rfl fr_215_0 rfl ?_
    refine L_bi (pc' := 13) rfl q2_8 rfl ?_
    refine L_rIk (pc' := 14) (j := 8) rfl sh_216 (by decide) (by decide) (by decide) rfl ?_
    refine L_br (t := 18) (n := 17) rfl rfl (fun _ => ?_) (fun _ => ?_)
    · refine L_s (pc' := 19) rfl rfl ?_
      refine L_gf (pc' := 22) rfl fr_215_0 rfl ?_
      refine L_bi (pc' := 24) rfl q2_8 rfl ?_
      refine L_s (pc' := 25) rfl rfl ?_
      refine L_wIk (pc' := 26) (j := 8) rfl sh_216 (by decide) (by decide) (by decide) rfl ?_
      refine L_let fun g1 _ => ?_
      refine L_s (pc' := 27) rfl rfl ?_
      refine L_gf (pc' := 30) rfl fr_215_0 rfl ?_
      refine L_bi (pc' := 32) rfl q2_9 rfl ?_
      refine L_s (pc' := 33) rfl rfl ?_
      refine L_wIk (pc' := 34) (j := 9) rfl sh_216 (by decide) (by decide) (by decide) rfl ?_
      refine L_let fun g2 _ => ?_
      exact L_ret rfl rfl rfl
    · exact L_ret rfl rfl rfl
def m_aTest_19 (F : Nat) (s0 : Int32) (s1 : Int32) (g : Sg) : Option (Sg) :=
  (if inb s1 4 = true then lt1 (up2 g 220 (Int32.toNatClampNeg s1) s0) (fun g1 => lt1 (up2 g1 220 1 (g1 215 9)) (fun g2 => lt1 (up2 g2 220 2 61) (fun g3 => lt1 (up2 g3 220 3 1) (fun g4 => (if ¬ (g4 215 10) = 0 then
    Option.bind (m_stops g4) (fun g5 => (some g5))
  else
    (if ¬ (g4 215 6) = 3 then
      Option.bind (m_stops g4) (fun g6 => (some g6))
    else
      Option.bind (m_isIn (g4 215 9) 1 6 g4) (fun x7 => (if ¬ x7 = 0 then
        Option.bind (m_advance F g4) (fun g8 => (if ¬ (g8 220 1) = 1 then
          lt1 (up2 g8 220 2 (g8 215 8)) (fun g9 => (if ¬ (g9 215 6) = 2 then
            Option.bind (m_stops g9) (fun g10 => (some g10))
          else
            (if (g9 215 8) = 58 then
              Option.bind (m_stops g9) (fun g11 => (some g11))
            else
              (if ¬ (g9 215 8) = 59 then
                Option.bind (m_advance F g9) (fun g12 => Option.bind (m_numbered F g12) (fun (x13, g14) => lt1 (up2 g14 220 3 x13) (fun g15 => (some g15))))
              else
                Option.bind (m_stops g9) (fun g16 => (some g16))))))
        else
          (some g8)))
      else
        Option.bind (m_stops g4) (fun g17 => (some g17)))))))))) else none)
def m_aTest (F : Nat)  (g : Sg) : Option (Sg) :=
  Option.bind (m_takes F 32 g) (fun (x1, g2) => (if x1 = 0 then
    (m_aTest_19 F 0 0 g2)
  else
    (m_aTest_19 F 1 0 g2)))
theorem p_m_aTest_19 {X : Xx} {d : Nat} (hd : 5 ≤ d) (F : Nat) (s0 : Int32) (s1 : Int32) (g : Sg) : Lt X d none k_202 (fun r : Sg => ((none, (SHF, r)) : Out)) 19 [some (.ref 215)] [.int s0, .int s1, .ref 220] g (m_aTest_19 F s0 s1 g) := by
  unfold m_aTest_19
  refine L_wI (pc' := 20) rfl sh_220 (by decide) rfl ?_
  refine L_let fun g1 _ => ?_
  refine L_s (pc' := 21) rfl rfl ?_
  refine L_gf (pc' := 24) rfl fr_215_13 rfl ?_
  refine L_ic (pc' := 25) rfl q1_1 rfl ?_
  refine L_s (pc' := 26) rfl rfl ?_
  refine L_gf (pc' := 29) rfl fi_215_9 rfl ?_
  refine L_wIk (pc' := 30) (j := 1) rfl sh_220 (by decide) (by decide) (by decide) rfl ?_
  refine L_let fun g2 _ => ?_
  refine L_s (pc' := 31) rfl rfl ?_
  refine L_gf (pc' := 34) rfl fr_215_13 rfl ?_
  refine L_ic (pc' := 35) rfl q1_2 rfl ?_
  refine L_bi (pc' := 37) rfl q2_61 rfl ?_
  refine L_wIk (pc' := 38) (j := 2) rfl sh_220 (by decide) (by decide) (by decide) rfl ?_
  refine L_let fun g3 _ => ?_
  refine L_s (pc' := 39) rfl rfl ?_
  refine L_gf (pc' := 42) rfl fr_215_13 rfl ?_
  refine L_ic (pc' := 43) rfl q1_3 rfl ?_
  refine L_ic (pc' := 44) rfl q1_1 rfl ?_
  refine L_wIk (pc' := 45) (j := 3) rfl sh_220 (by decide) (by decide) (by decide) rfl ?_
  refine L_let fun g4 _ => ?_
  refine L_s (pc' := 46) rfl rfl ?_
  refine L_gf (pc' := 49) rfl fi_215_10 rfl ?_
  refine L_br (t := 73) (n := 52) rfl rfl (fun _ => ?_) (fun _ => ?_)
  · refine L_s (pc' := 74) rfl rfl ?_
    refine L_cv (pc' := 77) (as := [.ref 215]) (rest := []) rfl rfl (e_m_stops (by omega) _) rfl fun g5 => ?_
    exact L_ret rfl rfl rfl
  · refine L_s (pc' := 53) rfl rfl ?_
    refine L_gf (pc' := 56) rfl fi_215_6 rfl ?_
    refine L_ic (pc' := 57) rfl q1_3 rfl ?_
    refine L_br (t := 73) (n := 60) rfl rfl (fun _ => ?_) (fun _ => ?_)
    · refine L_s (pc' := 74) rfl rfl ?_
      refine L_cv (pc' := 77) (as := [.ref 215]) (rest := []) rfl rfl (e_m_stops (by omega) _) rfl fun g6 => ?_
      exact L_ret rfl rfl rfl
    · refine L_s (pc' := 61) rfl rfl ?_
      refine L_gf (pc' := 64) rfl fi_215_9 rfl ?_
      refine L_ic (pc' := 65) rfl q1_1 rfl ?_
      refine L_bi (pc' := 67) rfl q2_6 rfl ?_
      refine L_ci (pc' := 70) (as := [.int (g4 215 9), .int 1, .int 6]) (rest := []) rfl rfl (e_m_isIn (by omega) _ _ _ _) rfl fun x7 => ?_
      refine L_br (t := 78) (n := 73) rfl rfl (fun _ => ?_) (fun _ => ?_)
      · refine L_s (pc' := 79) rfl rfl ?_
        refine L_cv (pc' := 82) (as := [.ref 215]) (rest := []) rfl rfl (e_m_advance (by omega) F _) rfl fun g8 => ?_
        refine L_s (pc' := 83) rfl rfl ?_
        refine L_gf (pc' := 86) rfl fr_215_13 rfl ?_
        refine L_ic (pc' := 87) rfl q1_1 rfl ?_
        refine L_rIk (pc' := 88) (j := 1) rfl sh_220 (by decide) (by decide) (by decide) rfl ?_
        refine L_ic (pc' := 89) rfl q1_1 rfl ?_
        refine L_br (t := 93) (n := 92) rfl rfl (fun _ => ?_) (fun _ => ?_)
        · refine L_s (pc' := 94) rfl rfl ?_
          refine L_gf (pc' := 97) rfl fr_215_13 rfl ?_
          refine L_ic (pc' := 98) rfl q1_2 rfl ?_
          refine L_s (pc' := 99) rfl rfl ?_
          refine L_gf (pc' := 102) rfl fi_215_8 rfl ?_
          refine L_wIk (pc' := 103) (j := 2) rfl sh_220 (by decide) (by decide) (by decide) rfl ?_
          refine L_let fun g9 _ => ?_
          refine L_s (pc' := 104) rfl rfl ?_
          refine L_gf (pc' := 107) rfl fi_215_6 rfl ?_
          refine L_ic (pc' := 108) rfl q1_2 rfl ?_
          refine L_br (t := 129) (n := 111) rfl rfl (fun _ => ?_) (fun _ => ?_)
          · refine L_s (pc' := 130) rfl rfl ?_
            refine L_cv (pc' := 133) (as := [.ref 215]) (rest := []) rfl rfl (e_m_stops (by omega) _) rfl fun g10 => ?_
            exact L_ret rfl rfl rfl
          · refine L_s (pc' := 112) rfl rfl ?_
            refine L_gf (pc' := 115) rfl fi_215_8 rfl ?_
            refine L_bi (pc' := 117) rfl q2_58 rfl ?_
            refine L_br (t := 129) (n := 120) rfl rfl (fun _ => ?_) (fun _ => ?_)
            · refine L_s (pc' := 130) rfl rfl ?_
              refine L_cv (pc' := 133) (as := [.ref 215]) (rest := []) rfl rfl (e_m_stops (by omega) _) rfl fun g11 => ?_
              exact L_ret rfl rfl rfl
            · refine L_s (pc' := 121) rfl rfl ?_
              refine L_gf (pc' := 124) rfl fi_215_8 rfl ?_
              refine L_bi (pc' := 126) rfl q2_59 rfl ?_
              refine L_br (t := 134) (n := 129) rfl rfl (fun _ => ?_) (fun _ => ?_)
              · refine L_s (pc' := 135) rfl rfl ?_
                refine L_cv (pc' := 138) (as := [.ref 215]) (rest := []) rfl rfl (e_m_advance (by omega) F _) rfl fun g12 => ?_
                refine L_s (pc' := 139) rfl rfl ?_
                refine L_gf (pc' := 142) rfl fr_215_13 rfl ?_
                refine L_ic (pc' := 143) rfl q1_3 rfl ?_
                refine L_s (pc' := 144) rfl rfl ?_
                refine L_cig (pc' := 147) (as := [.ref 215]) (rest := [.int 3, .ref 220]) rfl rfl (e_m_numbered (by omega) F _) rfl fun x13 g14 => ?_
                refine L_wIk (pc' := 148) (j := 3) rfl sh_220 (by decide) (by decide) (by decide) rfl ?_
                refine L_let fun g15 _ => ?_
                exact L_ret rfl rfl rfl
              · refine L_s (pc' := 130) rfl rfl ?_
                refine L_cv (pc' := 133) (as := [.ref 215]) (rest := []) rfl rfl (e_m_stops (by omega) _) rfl fun g16 => ?_
                exact L_ret rfl rfl rfl
        · exact L_ret rfl rfl rfl
      · refine L_s (pc' := 74) rfl rfl ?_
        refine L_cv (pc' := 77) (as := [.ref 215]) (rest := []) rfl rfl (e_m_stops (by omega) _) rfl fun g17 => ?_
        exact L_ret rfl rfl rfl
theorem e_m_aTest {X : Xx} {d : Nat} (hd : 6 ≤ d) (F : Nat)  (g : Sg) : ∀ r, m_aTest F  g = some r → EvM zft mtl X d 202 [.ref 215] (SHF, g) ((fun r : Sg => ((none, (SHF, r)) : Out)) r) := by
  obtain ⟨d, rfl⟩ : ∃ d0, d = d0 + 1 := ⟨d - 1, by omega⟩
  have hd : 5 ≤ d := by omega
  refine E_in (f := (fun r : Sg => ((none, (SHF, r)) : Out))) rfl (Nat.le_of_ble_eq_true rfl) ?_
  unfold m_aTest
  change Lt X d none k_202 _ 0 [some (.ref 215)] [] g _
  refine L_s (pc' := 1) rfl rfl ?_
  refine L_gf (pc' := 4) rfl fr_215_13 rfl ?_
  refine L_ic (pc' := 5) rfl q1_0 rfl ?_
  refine L_s (pc' := 6) rfl rfl ?_
  refine L_bi (pc' := 8) rfl q2_32 rfl ?_
  refine L_cig (pc' := 11) (as := [.ref 215, .int 32]) (rest := [.int 0, .ref 220]) rfl rfl (e_m_takes (by omega) F _ _) rfl fun x1 g2 => ?_
  refine L_br (t := 18) (n := 14) rfl rfl (fun _ => ?_) (fun _ => ?_)
  · refine L_ic (pc' := 19) rfl q1_0 rfl ?_
    exact p_m_aTest_19 hd F _ _ _
  · refine L_ic (pc' := 15) rfl q1_1 rfl ?_
    refine L_s (pc' := 19) rfl rfl ?_
    exact p_m_aTest_19 hd F _ _ _
def m_aLine_190 (F : Nat) (v1 : Int32) (v2 : Int32) (v4 : Int32) (g : Sg) : Option (Sg) :=
  Option.bind (m_must F 59 g) (fun g1 => Option.bind (m_puts 0 v1 g1) (fun g2 => Option.bind (m_puts 17 v2 g2) (fun g3 => Option.bind (m_puts 18 v4 g3) (fun g4 => lt1 (up2 g4 215 11 ((g4 215 11) + 1)) (fun g5 => (some g5))))))
def m_aLine_169 (F : Nat) (v1 : Int32) (v2 : Int32) (v3 : Int32) (s0 : Int32) (g : Sg) : Option (Sg) :=
  (if ¬ v2 = 21 then
    (m_aLine_190 F v1 v2 s0 g)
  else
    (if s0 ≤ 100 then
      (m_aLine_190 F v1 v2 s0 g)
    else
      Option.bind (m_also 2 v3 g) (fun g1 => (m_aLine_190 F v1 v2 s0 g1))))
def m_aLine_107 (F : Nat) (v1 : Int32) (g : Sg) : Option (Sg) :=
  (if ¬ (g 215 10) = 0 then
    Option.bind (m_stops g) (fun g1 => (some g1))
  else
    (if ¬ (g 215 6) = 3 then
      Option.bind (m_stops g) (fun g2 => (some g2))
    else
      Option.bind (m_isIn (g 215 9) 20 22 g) (fun x3 => (if ¬ x3 = 0 then
        lt1 ((g 215 9) : Int32) (fun x4 => Option.bind (m_advance F g) (fun g5 => lt1 ((g5 215 5) : Int32) (fun x6 => (if ¬ x4 = 22 then
          Option.bind (m_numbered F g5) (fun (x7, g8) => (m_aLine_169 F v1 x4 x6 x7 g8))
        else
          (m_aLine_169 F v1 x4 x6 0 g5)))))
      else
        Option.bind (m_stops g) (fun g9 => (some g9))))))
def m_aLine_55 (F : Nat) (k_31 : Int32 → Int32 → Sg → Option (Sg)) : Nat → Int32 → Int32 → Sg → Option (Sg)
  | 0, _, _, _ => none
  | n + 1, v1, v3, g =>
    (if 4 ≤ v3 then
      Option.bind (m_takes F 31 g) (fun (x1, g2) => (k_31 (v1 + 1) x1 g2))
    else
      (if 4 ≤ v1 then
        Option.bind (m_takes F 31 g) (fun (x3, g4) => (k_31 (v1 + 1) x3 g4))
      else
        (if inb v3 4 = true then Option.bind (m_puts ((1 + (4 * v1)) + v3) (g 220 (Int32.toNatClampNeg v3)) g) (fun g5 => (m_aLine_55 F k_31 n v1 (v3 + 1) g5)) else none)))
def m_aLine_31 (F : Nat) : Nat → Int32 → Int32 → Sg → Option (Sg)
  | 0, _, _, _ => none
  | n + 1, v1, v2, g =>
    (if v2 = 0 then
      Option.bind (m_must F 58 g) (fun g1 => (m_aLine_107 F v1 g1))
    else
      (if v1 ≤ 3 then
        Option.bind (m_aTest F g) (fun g2 => (m_aLine_55 F (fun v1 v2 g0 => m_aLine_31 F n v1 v2 g0) F v1 0 g2))
      else
        Option.bind (m_also 3 (g 215 5) g) (fun g3 => Option.bind (m_aTest F g3) (fun g4 => (m_aLine_55 F (fun v1 v2 g0 => m_aLine_31 F n v1 v2 g0) F v1 0 g4)))))
def m_aLine_18 (F : Nat)  (g : Sg) : Option (Sg) :=
  Option.bind (m_takes F 30 g) (fun (x1, g2) => (if x1 = 0 then
    (m_aLine_107 F 0 g2)
  else
    (m_aLine_31 F F 0 1 g2)))
def m_aLine (F : Nat)  (g : Sg) : Option (Sg) :=
  (if (g 215 11) < 16 then
    (m_aLine_18 F g)
  else
    Option.bind (m_also 3 (g 215 5) g) (fun g1 => (m_aLine_18 F g1)))
set_option maxRecDepth 20000 in
theorem p_m_aLine_190 {X : Xx} {d : Nat} (hd : 6 ≤ d) (F : Nat) (v1 : Int32) (v2 : Int32) (v4 : Int32) (g : Sg) : Lt X d none k_204 (fun r : Sg => ((none, (SHF, r)) : Out)) 190 [some (.ref 215), some (.int v1), some (.int v2), none, some (.int v4)] [] g (m_aLine_190 F v1 v2 v4 g) := by
  unfold m_aLine_190
  refine L_s (pc' := 191) rfl rfl ?_
  refine L_bi (pc' := 193) rfl q2_59 rfl ?_
  refine L_cv (pc' := 196) (as := [.ref 215, .int 59]) (rest := []) rfl rfl (e_m_must (by omega) F _ _) rfl fun g1 => ?_
  refine L_s (pc' := 197) rfl rfl ?_
  refine L_ic (pc' := 198) rfl q1_0 rfl ?_
  refine L_s (pc' := 199) rfl rfl ?_
  refine L_cv (pc' := 202) (as := [.ref 215, .int 0, .int v1]) (rest := []) rfl rfl (e_m_puts (by omega) _ _ _) rfl fun g2 => ?_
  refine L_s (pc' := 203) rfl rfl ?_
  refine L_bi (pc' := 205) rfl q2_17 rfl ?_
  refine L_s (pc' := 206) rfl rfl ?_
  refine L_cv (pc' := 209) (as := [.ref 215, .int 17, .int v2]) (rest := []) rfl rfl (e_m_puts (by omega) _ _ _) rfl fun g3 => ?_
  refine L_s (pc' := 210) rfl rfl ?_
  refine L_bi (pc' := 212) rfl q2_18 rfl ?_
  refine L_s (pc' := 214) rfl rfl ?_
  refine L_cv (pc' := 217) (as := [.ref 215, .int 18, .int v4]) (rest := []) rfl rfl (e_m_puts (by omega) _ _ _) rfl fun g4 => ?_
  refine L_s (pc' := 218) rfl rfl ?_
  refine L_s (pc' := 219) rfl rfl ?_
  refine L_gf (pc' := 222) rfl fi_215_11 rfl ?_
  refine L_ic (pc' := 223) rfl q1_1 rfl ?_
  refine L_s (pc' := 224) rfl rfl ?_
  refine L_pf (pc' := 227) rfl sh_215 (by decide) rfl rfl ?_
  refine L_let fun g5 _ => ?_
  exact L_ret rfl rfl rfl
theorem p_m_aLine_169 {X : Xx} {d : Nat} (hd : 6 ≤ d) (F : Nat) (v1 : Int32) (v2 : Int32) (v3 : Int32) (s0 : Int32) (g : Sg) : Lt X d none k_204 (fun r : Sg => ((none, (SHF, r)) : Out)) 169 [some (.ref 215), some (.int v1), some (.int v2), some (.int v3), none] [.int s0] g (m_aLine_169 F v1 v2 v3 s0 g) := by
  unfold m_aLine_169
  refine L_s (pc' := 171) (L' := [some (.ref 215), some (.int v1), some (.int v2), some (.int v3), some (.int s0)]) rfl rfl ?_
  refine L_s (pc' := 172) rfl rfl ?_
  refine L_bi (pc' := 174) rfl q2_21 rfl ?_
  refine L_br (t := 190) (n := 177) rfl rfl (fun _ => ?_) (fun _ => ?_)
  · refine L_wk (L' := [some (.ref 215), some (.int v1), some (.int v2), none, some (.int s0)]) (wk_s (wk_s (wk_s (wk_n (wk_s wk_nil))))) ?_
    exact p_m_aLine_190 hd F _ _ _ _
  · refine L_s (pc' := 179) rfl rfl ?_
    refine L_bi (pc' := 181) rfl q2_100 rfl ?_
    refine L_br (t := 190) (n := 184) rfl rfl (fun _ => ?_) (fun _ => ?_)
    · refine L_wk (L' := [some (.ref 215), some (.int v1), some (.int v2), none, some (.int s0)]) (wk_s (wk_s (wk_s (wk_n (wk_s wk_nil))))) ?_
      exact p_m_aLine_190 hd F _ _ _ _
    · refine L_s (pc' := 185) rfl rfl ?_
      refine L_ic (pc' := 186) rfl q1_2 rfl ?_
      refine L_s (pc' := 187) rfl rfl ?_
      refine L_cv (pc' := 190) (as := [.ref 215, .int 2, .int v3]) (rest := []) rfl rfl (e_m_also (by omega) _ _ _) rfl fun g1 => ?_
      refine L_wk (L' := [some (.ref 215), some (.int v1), some (.int v2), none, some (.int s0)]) (wk_s (wk_s (wk_s (wk_n (wk_s wk_nil))))) ?_
      exact p_m_aLine_190 hd F _ _ _ _
theorem p_m_aLine_107 {X : Xx} {d : Nat} (hd : 6 ≤ d) (F : Nat) (v1 : Int32) (g : Sg) : Lt X d none k_204 (fun r : Sg => ((none, (SHF, r)) : Out)) 107 [some (.ref 215), some (.int v1), none, none, none] [] g (m_aLine_107 F v1 g) := by
  unfold m_aLine_107
  refine L_s (pc' := 108) rfl rfl ?_
  refine L_gf (pc' := 111) rfl fi_215_10 rfl ?_
  refine L_br (t := 136) (n := 114) rfl rfl (fun _ => ?_) (fun _ => ?_)
  · refine L_s (pc' := 137) rfl rfl ?_
    refine L_cv (pc' := 140) (as := [.ref 215]) (rest := []) rfl rfl (e_m_stops (by omega) _) rfl fun g1 => ?_
    exact L_ret rfl rfl rfl
  · refine L_s (pc' := 115) rfl rfl ?_
    refine L_gf (pc' := 118) rfl fi_215_6 rfl ?_
    refine L_ic (pc' := 119) rfl q1_3 rfl ?_
    refine L_br (t := 136) (n := 122) rfl rfl (fun _ => ?_) (fun _ => ?_)
    · refine L_s (pc' := 137) rfl rfl ?_
      refine L_cv (pc' := 140) (as := [.ref 215]) (rest := []) rfl rfl (e_m_stops (by omega) _) rfl fun g2 => ?_
      exact L_ret rfl rfl rfl
    · refine L_s (pc' := 123) rfl rfl ?_
      refine L_gf (pc' := 126) rfl fi_215_9 rfl ?_
      refine L_bi (pc' := 128) rfl q2_20 rfl ?_
      refine L_bi (pc' := 130) rfl q2_22 rfl ?_
      refine L_ci (pc' := 133) (as := [.int (g 215 9), .int 20, .int 22]) (rest := []) rfl rfl (e_m_isIn (by omega) _ _ _ _) rfl fun x3 => ?_
      refine L_br (t := 141) (n := 136) rfl rfl (fun _ => ?_) (fun _ => ?_)
      · refine L_s (pc' := 142) rfl rfl ?_
        refine L_gf (pc' := 145) rfl fi_215_9 rfl ?_
        refine L_li fun x4 _ => ?_
        refine L_s (pc' := 146) (L' := [some (.ref 215), some (.int v1), some (.int x4), none, none]) rfl rfl ?_
        refine L_s (pc' := 147) rfl rfl ?_
        refine L_cv (pc' := 150) (as := [.ref 215]) (rest := []) rfl rfl (e_m_advance (by omega) F _) rfl fun g5 => ?_
        refine L_s (pc' := 151) rfl rfl ?_
        refine L_gf (pc' := 154) rfl fi_215_5 rfl ?_
        refine L_li fun x6 _ => ?_
        refine L_s (pc' := 155) (L' := [some (.ref 215), some (.int v1), some (.int x4), some (.int x6), none]) rfl rfl ?_
        refine L_s (pc' := 156) rfl rfl ?_
        refine L_bi (pc' := 158) rfl q2_22 rfl ?_
        refine L_br (t := 165) (n := 161) rfl rfl (fun _ => ?_) (fun _ => ?_)
        · refine L_s (pc' := 166) rfl rfl ?_
          refine L_cig (pc' := 169) (as := [.ref 215]) (rest := []) rfl rfl (e_m_numbered (by omega) F _) rfl fun x7 g8 => ?_
          exact p_m_aLine_169 hd F _ _ _ _ _
        · refine L_ic (pc' := 162) rfl q1_0 rfl ?_
          refine L_s (pc' := 169) rfl rfl ?_
          exact p_m_aLine_169 hd F _ _ _ _ _
      · refine L_s (pc' := 137) rfl rfl ?_
        refine L_cv (pc' := 140) (as := [.ref 215]) (rest := []) rfl rfl (e_m_stops (by omega) _) rfl fun g9 => ?_
        exact L_ret rfl rfl rfl
theorem p_m_aLine_55 {X : Xx} {d : Nat} {k_31 : Int32 → Int32 → Sg → Option (Sg)} (hd : 6 ≤ d) (hk_31 : ∀ (v1 : Int32) (v2 : Int32) (g : Sg), Lt X d none k_204 (fun r : Sg => ((none, (SHF, r)) : Out)) 31 [some (.ref 215), some (.int v1), some (.int v2), none, none] [] g (k_31 v1 v2 g)) (F : Nat) : ∀ (n : Nat) (v1 : Int32) (v3 : Int32) (g : Sg), Lt X d none k_204 (fun r : Sg => ((none, (SHF, r)) : Out)) 55 [some (.ref 215), some (.int v1), none, some (.int v3), none] [] g (m_aLine_55 F k_31 n v1 v3 g) := by
  intro n
  induction n with
  | zero => intros; exact L_none
  | succ n ih =>
    intro v1 v3 g
    show Lt X d none k_204 (fun r : Sg => ((none, (SHF, r)) : Out)) 55 [some (.ref 215), some (.int v1), none, some (.int v3), none] [] g (
      (if 4 ≤ v3 then
        Option.bind (m_takes F 31 g) (fun (x1, g2) => (k_31 (v1 + 1) x1 g2))
      else
        (if 4 ≤ v1 then
          Option.bind (m_takes F 31 g) (fun (x3, g4) => (k_31 (v1 + 1) x3 g4))
        else
          (if inb v3 4 = true then Option.bind (m_puts ((1 + (4 * v1)) + v3) (g 220 (Int32.toNatClampNeg v3)) g) (fun g5 => (m_aLine_55 F k_31 n v1 (v3 + 1) g5)) else none))))
    refine L_s (pc' := 56) rfl rfl ?_
    refine L_ic (pc' := 57) rfl q1_4 rfl ?_
    refine L_br (t := 88) (n := 60) rfl rfl (fun _ => ?_) (fun _ => ?_)
    · refine L_ii (pc' := 91) (L' := [some (.ref 215), some (.int (v1 + 1)), none, some (.int v3), none]) rfl rfl q1_1 rfl rfl rfl ?_
      refine L_s (pc' := 92) rfl rfl ?_
      refine L_bi (pc' := 94) rfl q2_31 rfl ?_
      refine L_cig (pc' := 97) (as := [.ref 215, .int 31]) (rest := []) rfl rfl (e_m_takes (by omega) F _ _) rfl fun x1 g2 => ?_
      refine L_s (pc' := 98) (L' := [some (.ref 215), some (.int (v1 + 1)), some (.int x1), some (.int v3), none]) rfl rfl ?_
      refine L_s (pc' := 31) rfl rfl ?_
      refine L_wk (L' := [some (.ref 215), some (.int (v1 + 1)), some (.int x1), none, none]) (wk_s (wk_s (wk_s (wk_n (wk_s wk_nil))))) ?_
      exact hk_31 _ _ _
    · refine L_s (pc' := 61) rfl rfl ?_
      refine L_ic (pc' := 62) rfl q1_4 rfl ?_
      refine L_br (t := 88) (n := 65) rfl rfl (fun _ => ?_) (fun _ => ?_)
      · refine L_ii (pc' := 91) (L' := [some (.ref 215), some (.int (v1 + 1)), none, some (.int v3), none]) rfl rfl q1_1 rfl rfl rfl ?_
        refine L_s (pc' := 92) rfl rfl ?_
        refine L_bi (pc' := 94) rfl q2_31 rfl ?_
        refine L_cig (pc' := 97) (as := [.ref 215, .int 31]) (rest := []) rfl rfl (e_m_takes (by omega) F _ _) rfl fun x3 g4 => ?_
        refine L_s (pc' := 98) (L' := [some (.ref 215), some (.int (v1 + 1)), some (.int x3), some (.int v3), none]) rfl rfl ?_
        refine L_s (pc' := 31) rfl rfl ?_
        refine L_wk (L' := [some (.ref 215), some (.int (v1 + 1)), some (.int x3), none, none]) (wk_s (wk_s (wk_s (wk_n (wk_s wk_nil))))) ?_
        exact hk_31 _ _ _
      · refine L_s (pc' := 66) rfl rfl ?_
        refine L_ic (pc' := 67) rfl q1_1 rfl ?_
        refine L_ic (pc' := 68) rfl q1_4 rfl ?_
        refine L_s (pc' := 69) rfl rfl ?_
        refine L_s (pc' := 70) rfl rfl ?_
        refine L_s (pc' := 71) rfl rfl ?_
        refine L_s (pc' := 72) rfl rfl ?_
        refine L_s (pc' := 73) rfl rfl ?_
        refine L_s (pc' := 74) rfl rfl ?_
        refine L_gf (pc' := 77) rfl fr_215_13 rfl ?_
        refine L_s (pc' := 78) rfl rfl ?_
        refine L_rI (pc' := 79) rfl sh_220 (by decide) rfl ?_
        refine L_cv (pc' := 82) (as := [.ref 215, .int ((1 + (4 * v1)) + v3), .int (g 220 (Int32.toNatClampNeg v3))]) (rest := []) rfl rfl (e_m_puts (by omega) _ _ _) rfl fun g5 => ?_
        refine L_ii (pc' := 85) (L' := [some (.ref 215), some (.int v1), none, some (.int (v3 + 1)), none]) rfl rfl q1_1 rfl rfl rfl ?_
        refine L_s (pc' := 55) rfl rfl ?_
        exact ih _ _ _
theorem p_m_aLine_31 {X : Xx} {d : Nat} (hd : 6 ≤ d) (F : Nat) : ∀ (n : Nat) (v1 : Int32) (v2 : Int32) (g : Sg), Lt X d none k_204 (fun r : Sg => ((none, (SHF, r)) : Out)) 31 [some (.ref 215), some (.int v1), some (.int v2), none, none] [] g (m_aLine_31 F n v1 v2 g) := by
  intro n
  induction n with
  | zero => intros; exact L_none
  | succ n ih =>
    intro v1 v2 g
    show Lt X d none k_204 (fun r : Sg => ((none, (SHF, r)) : Out)) 31 [some (.ref 215), some (.int v1), some (.int v2), none, none] [] g (
      (if v2 = 0 then
        Option.bind (m_must F 58 g) (fun g1 => (m_aLine_107 F v1 g1))
      else
        (if v1 ≤ 3 then
          Option.bind (m_aTest F g) (fun g2 => (m_aLine_55 F (fun v1 v2 g0 => m_aLine_31 F n v1 v2 g0) F v1 0 g2))
        else
          Option.bind (m_also 3 (g 215 5) g) (fun g3 => Option.bind (m_aTest F g3) (fun g4 => (m_aLine_55 F (fun v1 v2 g0 => m_aLine_31 F n v1 v2 g0) F v1 0 g4))))))
    refine L_s (pc' := 32) rfl rfl ?_
    refine L_br (t := 101) (n := 35) rfl rfl (fun _ => ?_) (fun _ => ?_)
    · refine L_s (pc' := 102) rfl rfl ?_
      refine L_bi (pc' := 104) rfl q2_58 rfl ?_
      refine L_cv (pc' := 107) (as := [.ref 215, .int 58]) (rest := []) rfl rfl (e_m_must (by omega) F _ _) rfl fun g1 => ?_
      refine L_wk (L' := [some (.ref 215), some (.int v1), none, none, none]) (wk_s (wk_s (wk_n (wk_s (wk_s wk_nil))))) ?_
      exact p_m_aLine_107 hd F _ _
    · refine L_s (pc' := 36) rfl rfl ?_
      refine L_ic (pc' := 37) rfl q1_3 rfl ?_
      refine L_br (t := 49) (n := 40) rfl rfl (fun _ => ?_) (fun _ => ?_)
      · refine L_s (pc' := 50) rfl rfl ?_
        refine L_cv (pc' := 53) (as := [.ref 215]) (rest := []) rfl rfl (e_m_aTest (by omega) F _) rfl fun g2 => ?_
        refine L_ic (pc' := 54) rfl q1_0 rfl ?_
        refine L_s (pc' := 55) (L' := [some (.ref 215), some (.int v1), some (.int v2), some (.int 0), none]) rfl rfl ?_
        refine L_wk (L' := [some (.ref 215), some (.int v1), none, some (.int 0), none]) (wk_s (wk_s (wk_n (wk_s (wk_s wk_nil))))) ?_
        exact p_m_aLine_55 hd (fun _ _ _ => ih _ _ _) F F _ _ _
      · refine L_s (pc' := 41) rfl rfl ?_
        refine L_ic (pc' := 42) rfl q1_3 rfl ?_
        refine L_s (pc' := 43) rfl rfl ?_
        refine L_gf (pc' := 46) rfl fi_215_5 rfl ?_
        refine L_cv (pc' := 49) (as := [.ref 215, .int 3, .int (g 215 5)]) (rest := []) rfl rfl (e_m_also (by omega) _ _ _) rfl fun g3 => ?_
        refine L_s (pc' := 50) rfl rfl ?_
        refine L_cv (pc' := 53) (as := [.ref 215]) (rest := []) rfl rfl (e_m_aTest (by omega) F _) rfl fun g4 => ?_
        refine L_ic (pc' := 54) rfl q1_0 rfl ?_
        refine L_s (pc' := 55) (L' := [some (.ref 215), some (.int v1), some (.int v2), some (.int 0), none]) rfl rfl ?_
        refine L_wk (L' := [some (.ref 215), some (.int v1), none, some (.int 0), none]) (wk_s (wk_s (wk_n (wk_s (wk_s wk_nil))))) ?_
        exact p_m_aLine_55 hd (fun _ _ _ => ih _ _ _) F F _ _ _
theorem p_m_aLine_18 {X : Xx} {d : Nat} (hd : 6 ≤ d) (F : Nat)  (g : Sg) : Lt X d none k_204 (fun r : Sg => ((none, (SHF, r)) : Out)) 18 [some (.ref 215), none, none, none, none] [] g (m_aLine_18 F g) := by
  unfold m_aLine_18
  refine L_ic (pc' := 19) rfl q1_0 rfl ?_
  refine L_s (pc' := 20) (L' := [some (.ref 215), some (.int 0), none, none, none]) rfl rfl ?_
  refine L_s (pc' := 21) rfl rfl ?_
  refine L_bi (pc' := 23) rfl q2_30 rfl ?_
  refine L_cig (pc' := 26) (as := [.ref 215, .int 30]) (rest := []) rfl rfl (e_m_takes (by omega) F _ _) rfl fun x1 g2 => ?_
  refine L_br (t := 107) (n := 29) rfl rfl (fun _ => ?_) (fun _ => ?_)
  · exact p_m_aLine_107 hd F _ _
  · refine L_ic (pc' := 30) rfl q1_1 rfl ?_
    refine L_s (pc' := 31) (L' := [some (.ref 215), some (.int 0), some (.int 1), none, none]) rfl rfl ?_
    exact p_m_aLine_31 hd F F _ _ _
theorem e_m_aLine {X : Xx} {d : Nat} (hd : 7 ≤ d) (F : Nat)  (g : Sg) : ∀ r, m_aLine F  g = some r → EvM zft mtl X d 204 [.ref 215] (SHF, g) ((fun r : Sg => ((none, (SHF, r)) : Out)) r) := by
  obtain ⟨d, rfl⟩ : ∃ d0, d = d0 + 1 := ⟨d - 1, by omega⟩
  have hd : 6 ≤ d := by omega
  refine E_in (f := (fun r : Sg => ((none, (SHF, r)) : Out))) rfl (Nat.le_of_ble_eq_true rfl) ?_
  unfold m_aLine
  change Lt X d none k_204 _ 0 [some (.ref 215), none, none, none, none] [] g _
  refine L_s (pc' := 1) rfl rfl ?_
  refine L_gf (pc' := 4) rfl fi_215_11 rfl ?_
  refine L_bi (pc' := 6) rfl q2_16 rfl ?_
  refine L_br (t := 18) (n := 9) rfl rfl (fun _ => ?_) (fun _ => ?_)
  · exact p_m_aLine_18 hd F _
  · refine L_s (pc' := 10) rfl rfl ?_
    refine L_ic (pc' := 11) rfl q1_3 rfl ?_
    refine L_s (pc' := 12) rfl rfl ?_
    refine L_gf (pc' := 15) rfl fi_215_5 rfl ?_
    refine L_cv (pc' := 18) (as := [.ref 215, .int 3, .int (g 215 5)]) (rest := []) rfl rfl (e_m_also (by omega) _ _ _) rfl fun g1 => ?_
    exact p_m_aLine_18 hd F _
def m_statute_89 : Nat → Int32 → Sg → Option (Int32 × Sg)
  | 0, _, _ => none
  | n + 1, v1, g =>
    (if 320 ≤ v1 then
      lt1 (up2 g 216 4 (g 215 11)) (fun g1 => (some ((g1 215 11), g1)))
    else
      (if inb v1 320 = true then (if inb (4270 + v1) 20360 = true then lt1 (up2 g 216 (Int32.toNatClampNeg (4270 + v1)) (g 219 (Int32.toNatClampNeg v1))) (fun g2 => (m_statute_89 n (v1 + 1) g2)) else none) else none))
def m_statute_75 (F : Nat)  (g : Sg) : Option (Int32 × Sg) :=
  (if (g 216 8) = 0 then
    (m_statute_89 F 0 g)
  else
    (some ((-1), g)))
def m_statute_54 (F : Nat) : Nat → Sg → Option (Int32 × Sg)
  | 0, _ => none
  | n + 1, g =>
    (if ¬ (g 215 10) = 0 then
      (m_statute_75 F g)
    else
      (if (g 215 6) = 0 then
        (m_statute_75 F g)
      else
        Option.bind (m_aLine F g) (fun g1 => (m_statute_54 F n g1))))
def m_statute (F : Nat)  (g : Sg) : Option (Int32 × Sg) :=
  lt1 (up2 g 215 3 (g 216 7)) (fun g1 => lt1 (up2 g1 216 7 0) (fun g2 => lt1 (up2 g2 215 4 0) (fun g3 => lt1 (up2 g3 216 8 0) (fun g4 => lt1 (up2 g4 216 9 (-1)) (fun g5 => lt1 (up2 g5 215 10 0) (fun g6 => lt1 (up2 g6 215 11 0) (fun g7 => Option.bind (m_advance F g7) (fun g8 => (m_statute_54 F F g8)))))))))
theorem p_m_statute_89 {X : Xx} {d : Nat} (hd : 7 ≤ d) : ∀ (n : Nat) (v1 : Int32) (g : Sg), Lt X d (some .int) k_205 (fun r : Int32 × Sg => ((some (.int r.1), (SHF, r.2)) : Out)) 89 [some (.ref 215), some (.int v1)] [] g (m_statute_89 n v1 g) := by
  intro n
  induction n with
  | zero => intros; exact L_none
  | succ n ih =>
    intro v1 g
    show Lt X d (some .int) k_205 (fun r : Int32 × Sg => ((some (.int r.1), (SHF, r.2)) : Out)) 89 [some (.ref 215), some (.int v1)] [] g (
      (if 320 ≤ v1 then
        lt1 (up2 g 216 4 (g 215 11)) (fun g1 => (some ((g1 215 11), g1)))
      else
        (if inb v1 320 = true then (if inb (4270 + v1) 20360 = true then lt1 (up2 g 216 (Int32.toNatClampNeg (4270 + v1)) (g 219 (Int32.toNatClampNeg v1))) (fun g2 => (m_statute_89 n (v1 + 1) g2)) else none) else none)))
    refine L_s (pc' := 90) rfl rfl ?_
    refine L_si (pc' := 93) rfl q3_320 rfl ?_
    refine L_br (t := 118) (n := 96) rfl rfl (fun _ => ?_) (fun _ => ?_)
    · refine L_s (pc' := 119) rfl rfl ?_
      refine L_gf (pc' := 122) rfl fr_215_0 rfl ?_
      refine L_ic (pc' := 123) rfl q1_4 rfl ?_
      refine L_s (pc' := 124) rfl rfl ?_
      refine L_gf (pc' := 127) rfl fi_215_11 rfl ?_
      refine L_wIk (pc' := 128) (j := 4) rfl sh_216 (by decide) (by decide) (by decide) rfl ?_
      refine L_let fun g1 _ => ?_
      refine L_s (pc' := 129) rfl rfl ?_
      refine L_gf (pc' := 132) rfl fi_215_11 rfl ?_
      exact L_ret rfl ret_i rfl
    · refine L_s (pc' := 97) rfl rfl ?_
      refine L_gf (pc' := 100) rfl fr_215_0 rfl ?_
      refine L_si (pc' := 103) rfl q3_4270 rfl ?_
      refine L_s (pc' := 104) rfl rfl ?_
      refine L_s (pc' := 105) rfl rfl ?_
      refine L_s (pc' := 106) rfl rfl ?_
      refine L_gf (pc' := 109) rfl fr_215_12 rfl ?_
      refine L_s (pc' := 110) rfl rfl ?_
      refine L_rI (pc' := 111) rfl sh_219 (by decide) rfl ?_
      refine L_wI (pc' := 112) rfl sh_216 (by decide) rfl ?_
      refine L_let fun g2 _ => ?_
      refine L_ii (pc' := 115) (L' := [some (.ref 215), some (.int (v1 + 1))]) rfl rfl q1_1 rfl rfl rfl ?_
      refine L_s (pc' := 89) rfl rfl ?_
      exact ih _ _
theorem p_m_statute_75 {X : Xx} {d : Nat} (hd : 7 ≤ d) (F : Nat)  (g : Sg) : Lt X d (some .int) k_205 (fun r : Int32 × Sg => ((some (.int r.1), (SHF, r.2)) : Out)) 75 [some (.ref 215), none] [] g (m_statute_75 F g) := by
  unfold m_statute_75
  refine L_s (pc' := 76) rfl rfl ?_
  refine L_gf (pc' := 79) rfl fr_215_0 rfl ?_
  refine L_bi (pc' := 81) rfl q2_8 rfl ?_
  refine L_rIk (pc' := 82) (j := 8) rfl sh_216 (by decide) (by decide) (by decide) rfl ?_
  refine L_br (t := 87) (n := 85) rfl rfl (fun _ => ?_) (fun _ => ?_)
  · refine L_ic (pc' := 88) rfl q1_0 rfl ?_
    refine L_s (pc' := 89) (L' := [some (.ref 215), some (.int 0)]) rfl rfl ?_
    exact p_m_statute_89 hd F _ _
  · refine L_ic (pc' := 86) rfl q1_m1 rfl ?_
    exact L_ret rfl ret_i rfl
theorem p_m_statute_54 {X : Xx} {d : Nat} (hd : 7 ≤ d) (F : Nat) : ∀ (n : Nat) (g : Sg), Lt X d (some .int) k_205 (fun r : Int32 × Sg => ((some (.int r.1), (SHF, r.2)) : Out)) 54 [some (.ref 215), none] [] g (m_statute_54 F n g) := by
  intro n
  induction n with
  | zero => intros; exact L_none
  | succ n ih =>
    intro g
    show Lt X d (some .int) k_205 (fun r : Int32 × Sg => ((some (.int r.1), (SHF, r.2)) : Out)) 54 [some (.ref 215), none] [] g (
      (if ¬ (g 215 10) = 0 then
        (m_statute_75 F g)
      else
        (if (g 215 6) = 0 then
          (m_statute_75 F g)
        else
          Option.bind (m_aLine F g) (fun g1 => (m_statute_54 F n g1)))))
    refine L_s (pc' := 55) rfl rfl ?_
    refine L_gf (pc' := 58) rfl fi_215_10 rfl ?_
    refine L_br (t := 75) (n := 61) rfl rfl (fun _ => ?_) (fun _ => ?_)
    · exact p_m_statute_75 hd F _
    · refine L_s (pc' := 62) rfl rfl ?_
      refine L_gf (pc' := 65) rfl fi_215_6 rfl ?_
      refine L_br (t := 75) (n := 68) rfl rfl (fun _ => ?_) (fun _ => ?_)
      · exact p_m_statute_75 hd F _
      · refine L_s (pc' := 69) rfl rfl ?_
        refine L_cv (pc' := 72) (as := [.ref 215]) (rest := []) rfl rfl (e_m_aLine (by omega) F _) rfl fun g1 => ?_
        refine L_s (pc' := 54) rfl rfl ?_
        exact ih  _
theorem e_m_statute {X : Xx} {d : Nat} (hd : 8 ≤ d) (F : Nat)  (g : Sg) : ∀ r, m_statute F  g = some r → EvM zft mtl X d 205 [.ref 215] (SHF, g) ((fun r : Int32 × Sg => ((some (.int r.1), (SHF, r.2)) : Out)) r) := by
  obtain ⟨d, rfl⟩ : ∃ d0, d = d0 + 1 := ⟨d - 1, by omega⟩
  have hd : 7 ≤ d := by omega
  refine E_in (f := (fun r : Int32 × Sg => ((some (.int r.1), (SHF, r.2)) : Out))) rfl (Nat.le_of_ble_eq_true rfl) ?_
  unfold m_statute
  change Lt X d (some .int) k_205 _ 0 [some (.ref 215), none] [] g _
  refine L_s (pc' := 1) rfl rfl ?_
  refine L_s (pc' := 2) rfl rfl ?_
  refine L_gf (pc' := 5) rfl fr_215_0 rfl ?_
  refine L_bi (pc' := 7) rfl q2_7 rfl ?_
  refine L_rIk (pc' := 8) (j := 7) rfl sh_216 (by decide) (by decide) (by decide) rfl ?_
  refine L_pf (pc' := 11) rfl sh_215 (by decide) rfl rfl ?_
  refine L_let fun g1 _ => ?_
  refine L_s (pc' := 12) rfl rfl ?_
  refine L_gf (pc' := 15) rfl fr_215_0 rfl ?_
  refine L_bi (pc' := 17) rfl q2_7 rfl ?_
  refine L_ic (pc' := 18) rfl q1_0 rfl ?_
  refine L_wIk (pc' := 19) (j := 7) rfl sh_216 (by decide) (by decide) (by decide) rfl ?_
  refine L_let fun g2 _ => ?_
  refine L_s (pc' := 20) rfl rfl ?_
  refine L_ic (pc' := 21) rfl q1_0 rfl ?_
  refine L_pf (pc' := 24) rfl sh_215 (by decide) rfl rfl ?_
  refine L_let fun g3 _ => ?_
  refine L_s (pc' := 25) rfl rfl ?_
  refine L_gf (pc' := 28) rfl fr_215_0 rfl ?_
  refine L_bi (pc' := 30) rfl q2_8 rfl ?_
  refine L_ic (pc' := 31) rfl q1_0 rfl ?_
  refine L_wIk (pc' := 32) (j := 8) rfl sh_216 (by decide) (by decide) (by decide) rfl ?_
  refine L_let fun g4 _ => ?_
  refine L_s (pc' := 33) rfl rfl ?_
  refine L_gf (pc' := 36) rfl fr_215_0 rfl ?_
  refine L_bi (pc' := 38) rfl q2_9 rfl ?_
  refine L_ic (pc' := 39) rfl q1_m1 rfl ?_
  refine L_wIk (pc' := 40) (j := 9) rfl sh_216 (by decide) (by decide) (by decide) rfl ?_
  refine L_let fun g5 _ => ?_
  refine L_s (pc' := 41) rfl rfl ?_
  refine L_ic (pc' := 42) rfl q1_0 rfl ?_
  refine L_pz (pc' := 45) rfl sh_215 (by decide) rfl (by decide) rfl ?_
  refine L_let fun g6 _ => ?_
  refine L_s (pc' := 46) rfl rfl ?_
  refine L_ic (pc' := 47) rfl q1_0 rfl ?_
  refine L_pf (pc' := 50) rfl sh_215 (by decide) rfl rfl ?_
  refine L_let fun g7 _ => ?_
  refine L_s (pc' := 51) rfl rfl ?_
  refine L_cv (pc' := 54) (as := [.ref 215]) (rest := []) rfl rfl (e_m_advance (by omega) F _) rfl fun g8 => ?_
  exact p_m_statute_54 hd F F _
def m_fault (v1 : Int32) (g : Sg) : Option (Int32) :=
  (if ¬ v1 = 0 then
    (if ¬ v1 = 1 then
      (some (-1))
    else
      (some (g 216 9)))
  else
    (some (g 216 8)))
theorem e_m_fault {X : Xx} {d : Nat} (hd : 1 ≤ d) (v1 : Int32) (g : Sg) : ∀ r, m_fault v1 g = some r → EvM zft mtl X d 206 [.ref 215, .int v1] (SHF, g) ((fun r : Int32 => ((some (.int r), (SHF, g)) : Out)) r) := by
  obtain ⟨d, rfl⟩ : ∃ d0, d = d0 + 1 := ⟨d - 1, by omega⟩
  have hd : 0 ≤ d := by omega
  refine E_in (f := (fun r : Int32 => ((some (.int r), (SHF, g)) : Out))) rfl (Nat.le_of_ble_eq_true rfl) ?_
  unfold m_fault
  change Lt X d (some .int) k_206 _ 0 [some (.ref 215), some (.int v1)] [] g _
  refine L_s (pc' := 1) rfl rfl ?_
  refine L_br (t := 14) (n := 4) rfl rfl (fun _ => ?_) (fun _ => ?_)
  · refine L_s (pc' := 15) rfl rfl ?_
    refine L_ic (pc' := 16) rfl q1_1 rfl ?_
    refine L_br (t := 29) (n := 19) rfl rfl (fun _ => ?_) (fun _ => ?_)
    · refine L_ic (pc' := 30) rfl q1_m1 rfl ?_
      exact L_ret rfl ret_i rfl
    · refine L_s (pc' := 20) rfl rfl ?_
      refine L_gf (pc' := 23) rfl fr_215_0 rfl ?_
      refine L_bi (pc' := 25) rfl q2_9 rfl ?_
      refine L_rIk (pc' := 26) (j := 9) rfl sh_216 (by decide) (by decide) (by decide) rfl ?_
      refine L_s (pc' := 30) rfl rfl ?_
      exact L_ret rfl ret_i rfl
  · refine L_s (pc' := 5) rfl rfl ?_
    refine L_gf (pc' := 8) rfl fr_215_0 rfl ?_
    refine L_bi (pc' := 10) rfl q2_8 rfl ?_
    refine L_rIk (pc' := 11) (j := 8) rfl sh_216 (by decide) (by decide) (by decide) rfl ?_
    refine L_s (pc' := 30) rfl rfl ?_
    exact L_ret rfl ret_i rfl
def m_dry_28 (v1 : Int32) (v2 : Int32) (s0 : Int32) (g : Sg) : Option (Int32 × Sg) :=
  (if ¬ s0 = v2 then
    (if v2 = 0 then
      (if inb (40 + v1) 20360 = true then lt1 (up2 g 216 (Int32.toNatClampNeg (40 + v1)) 0) (fun g1 => (some (1, g1))) else none)
    else
      (if inb (40 + v1) 20360 = true then lt1 (up2 g 216 (Int32.toNatClampNeg (40 + v1)) 1) (fun g2 => (some (1, g2))) else none))
  else
    (some (0, g)))
def m_dry (v1 : Int32) (v2 : Int32) (g : Sg) : Option (Int32 × Sg) :=
  Option.bind (m_isIn v1 0 99 g) (fun x1 => (if x1 = 0 then
    (some (0, g))
  else
    (if inb (40 + v1) 20360 = true then (if ¬ (g 216 (Int32.toNatClampNeg (40 + v1))) = 1 then
      (m_dry_28 v1 v2 0 g)
    else
      (m_dry_28 v1 v2 1 g)) else none)))
theorem p_m_dry_28 {X : Xx} {d : Nat} (hd : 1 ≤ d) (v1 : Int32) (v2 : Int32) (s0 : Int32) (g : Sg) : Lt X d (some .boolean) k_207 (fun r : Int32 × Sg => ((some (.int r.1), (SHF, r.2)) : Out)) 28 [some (.ref 215), some (.int v1), some (.int v2)] [.int s0] g (m_dry_28 v1 v2 s0 g) := by
  unfold m_dry_28
  refine L_s (pc' := 29) rfl rfl ?_
  refine L_br (t := 34) (n := 32) rfl rfl (fun _ => ?_) (fun _ => ?_)
  · refine L_s (pc' := 35) rfl rfl ?_
    refine L_gf (pc' := 38) rfl fr_215_0 rfl ?_
    refine L_bi (pc' := 40) rfl q2_40 rfl ?_
    refine L_s (pc' := 41) rfl rfl ?_
    refine L_s (pc' := 42) rfl rfl ?_
    refine L_s (pc' := 43) rfl rfl ?_
    refine L_br (t := 50) (n := 46) rfl rfl (fun _ => ?_) (fun _ => ?_)
    · refine L_ic (pc' := 51) rfl q1_0 rfl ?_
      refine L_wI (pc' := 52) rfl sh_216 (by decide) rfl ?_
      refine L_let fun g1 _ => ?_
      refine L_ic (pc' := 53) rfl q1_1 rfl ?_
      exact L_ret rfl (ret_z (by decide)) rfl
    · refine L_ic (pc' := 47) rfl q1_1 rfl ?_
      refine L_s (pc' := 51) rfl rfl ?_
      refine L_wI (pc' := 52) rfl sh_216 (by decide) rfl ?_
      refine L_let fun g2 _ => ?_
      refine L_ic (pc' := 53) rfl q1_1 rfl ?_
      exact L_ret rfl (ret_z (by decide)) rfl
  · refine L_ic (pc' := 33) rfl q1_0 rfl ?_
    exact L_ret rfl (ret_z (by decide)) rfl
theorem e_m_dry {X : Xx} {d : Nat} (hd : 2 ≤ d) (v1 : Int32) (v2 : Int32) (g : Sg) : ∀ r, m_dry v1 v2 g = some r → EvM zft mtl X d 207 [.ref 215, .int v1, .int v2] (SHF, g) ((fun r : Int32 × Sg => ((some (.int r.1), (SHF, r.2)) : Out)) r) := by
  obtain ⟨d, rfl⟩ : ∃ d0, d = d0 + 1 := ⟨d - 1, by omega⟩
  have hd : 1 ≤ d := by omega
  refine E_in (f := (fun r : Int32 × Sg => ((some (.int r.1), (SHF, r.2)) : Out))) rfl (Nat.le_of_ble_eq_true rfl) ?_
  unfold m_dry
  change Lt X d (some .boolean) k_207 _ 0 [some (.ref 215), some (.int v1), some (.int v2)] [] g _
  refine L_s (pc' := 1) rfl rfl ?_
  refine L_ic (pc' := 2) rfl q1_0 rfl ?_
  refine L_bi (pc' := 4) rfl q2_99 rfl ?_
  refine L_ci (pc' := 7) (as := [.int v1, .int 0, .int 99]) (rest := []) rfl rfl (e_m_isIn (by omega) _ _ _ _) rfl fun x1 => ?_
  refine L_br (t := 32) (n := 10) rfl rfl (fun _ => ?_) (fun _ => ?_)
  · refine L_ic (pc' := 33) rfl q1_0 rfl ?_
    exact L_ret rfl (ret_z (by decide)) rfl
  · refine L_s (pc' := 11) rfl rfl ?_
    refine L_gf (pc' := 14) rfl fr_215_0 rfl ?_
    refine L_bi (pc' := 16) rfl q2_40 rfl ?_
    refine L_s (pc' := 17) rfl rfl ?_
    refine L_s (pc' := 18) rfl rfl ?_
    refine L_rI (pc' := 19) rfl sh_216 (by decide) rfl ?_
    refine L_ic (pc' := 20) rfl q1_1 rfl ?_
    refine L_br (t := 27) (n := 23) rfl rfl (fun _ => ?_) (fun _ => ?_)
    · refine L_ic (pc' := 28) rfl q1_0 rfl ?_
      exact p_m_dry_28 hd _ _ _ _
    · refine L_ic (pc' := 24) rfl q1_1 rfl ?_
      refine L_s (pc' := 28) rfl rfl ?_
      exact p_m_dry_28 hd _ _ _ _
def m_counts_12 (F : Nat) : Nat → Int32 → Int32 → Int32 → Sg → Option (Sg)
  | 0, _, _, _, _ => none
  | n + 1, v1, v2, v3, g =>
    (if 168 ≤ v3 then
      (if inb (30 + v1) 20360 = true then lt1 ((g 216 (Int32.toNatClampNeg (30 + v1))) : Int32) (fun x1 => (if x1 < 0 then
        lt1 (up2 g 215 16 999) (fun g2 => lt1 (up2 g2 215 17 (-1)) (fun g3 => (some g3)))
      else
        Option.bind (m_leads F 0 x1 g) (fun (x4, g5) => (if x4 = 0 then
          lt1 (up2 g5 215 16 999) (fun g6 => lt1 (up2 g6 215 17 (-1)) (fun g7 => (some g7)))
        else
          lt1 (up2 g5 215 16 ((g5 218 0) / 100)) (fun g8 => lt1 (up2 g8 215 17 (-1)) (fun g9 => (some g9))))))) else none)
    else
      Option.bind (m_today g) (fun x10 => Option.bind (m_owns F v3 v2 x10 g) (fun x11 => (if x11 = v1 then
        lt1 (up2 g 215 14 ((g 215 14) + 1)) (fun g12 => (if (v3 - v3 / 24 * 24) < 6 then
          lt1 (up2 g12 215 15 ((g12 215 15) + 1)) (fun g13 => (m_counts_12 F n v1 v2 (v3 + 1) g13))
        else
          (if (v3 - v3 / 24 * 24) < 18 then
            lt1 (up2 g12 215 15 ((g12 215 15) + 0)) (fun g14 => (m_counts_12 F n v1 v2 (v3 + 1) g14))
          else
            lt1 (up2 g12 215 15 ((g12 215 15) + 1)) (fun g15 => (m_counts_12 F n v1 v2 (v3 + 1) g15)))))
      else
        (m_counts_12 F n v1 v2 (v3 + 1) g)))))
def m_counts (F : Nat) (v1 : Int32) (v2 : Int32) (g : Sg) : Option (Sg) :=
  lt1 (up2 g 215 14 0) (fun g1 => lt1 (up2 g1 215 15 0) (fun g2 => (m_counts_12 F F v1 v2 0 g2)))
theorem p_m_counts_12 {X : Xx} {d : Nat} (hd : 3 ≤ d) (F : Nat) : ∀ (n : Nat) (v1 : Int32) (v2 : Int32) (v3 : Int32) (g : Sg), Lt X d none k_208 (fun r : Sg => ((none, (SHF, r)) : Out)) 12 [some (.ref 215), some (.int v1), some (.int v2), some (.int v3)] [] g (m_counts_12 F n v1 v2 v3 g) := by
  intro n
  induction n with
  | zero => intros; exact L_none
  | succ n ih =>
    intro v1 v2 v3 g
    show Lt X d none k_208 (fun r : Sg => ((none, (SHF, r)) : Out)) 12 [some (.ref 215), some (.int v1), some (.int v2), some (.int v3)] [] g (
      (if 168 ≤ v3 then
        (if inb (30 + v1) 20360 = true then lt1 ((g 216 (Int32.toNatClampNeg (30 + v1))) : Int32) (fun x1 => (if x1 < 0 then
          lt1 (up2 g 215 16 999) (fun g2 => lt1 (up2 g2 215 17 (-1)) (fun g3 => (some g3)))
        else
          Option.bind (m_leads F 0 x1 g) (fun (x4, g5) => (if x4 = 0 then
            lt1 (up2 g5 215 16 999) (fun g6 => lt1 (up2 g6 215 17 (-1)) (fun g7 => (some g7)))
          else
            lt1 (up2 g5 215 16 ((g5 218 0) / 100)) (fun g8 => lt1 (up2 g8 215 17 (-1)) (fun g9 => (some g9))))))) else none)
      else
        Option.bind (m_today g) (fun x10 => Option.bind (m_owns F v3 v2 x10 g) (fun x11 => (if x11 = v1 then
          lt1 (up2 g 215 14 ((g 215 14) + 1)) (fun g12 => (if (v3 - v3 / 24 * 24) < 6 then
            lt1 (up2 g12 215 15 ((g12 215 15) + 1)) (fun g13 => (m_counts_12 F n v1 v2 (v3 + 1) g13))
          else
            (if (v3 - v3 / 24 * 24) < 18 then
              lt1 (up2 g12 215 15 ((g12 215 15) + 0)) (fun g14 => (m_counts_12 F n v1 v2 (v3 + 1) g14))
            else
              lt1 (up2 g12 215 15 ((g12 215 15) + 1)) (fun g15 => (m_counts_12 F n v1 v2 (v3 + 1) g15)))))
        else
          (m_counts_12 F n v1 v2 (v3 + 1) g))))))
    refine L_s (pc' := 13) rfl rfl ?_
    refine L_si (pc' := 16) rfl q3_168 rfl ?_
    refine L_br (t := 84) (n := 19) rfl rfl (fun _ => ?_) (fun _ => ?_)
    · refine L_s (pc' := 85) rfl rfl ?_
      refine L_gf (pc' := 88) rfl fr_215_0 rfl ?_
      refine L_bi (pc' := 90) rfl q2_30 rfl ?_
      refine L_s (pc' := 91) rfl rfl ?_
      refine L_s (pc' := 92) rfl rfl ?_
      refine L_rI (pc' := 93) rfl sh_216 (by decide) rfl ?_
      refine L_li fun x1 _ => ?_
      refine L_s (pc' := 94) (L' := [some (.ref 215), some (.int v1), some (.int v2), some (.int x1)]) rfl rfl ?_
      refine L_s (pc' := 95) rfl rfl ?_
      refine L_s (pc' := 96) rfl rfl ?_
      refine L_br (t := 120) (n := 99) rfl rfl (fun _ => ?_) (fun _ => ?_)
      · refine L_si (pc' := 123) rfl q3_999 rfl ?_
        refine L_pf (pc' := 126) rfl sh_215 (by decide) rfl rfl ?_
        refine L_let fun g2 _ => ?_
        refine L_s (pc' := 127) rfl rfl ?_
        refine L_ic (pc' := 128) rfl q1_m1 rfl ?_
        refine L_pf (pc' := 131) rfl sh_215 (by decide) rfl rfl ?_
        refine L_let fun g3 _ => ?_
        exact L_ret rfl rfl rfl
      · refine L_s (pc' := 100) rfl rfl ?_
        refine L_ic (pc' := 101) rfl q1_0 rfl ?_
        refine L_s (pc' := 102) rfl rfl ?_
        refine L_cig (pc' := 105) (as := [.ref 215, .int 0, .int x1]) (rest := [.ref 215]) rfl rfl (e_m_leads (by omega) F _ _ _) rfl fun x4 g5 => ?_
        refine L_br (t := 120) (n := 108) rfl rfl (fun _ => ?_) (fun _ => ?_)
        · refine L_si (pc' := 123) rfl q3_999 rfl ?_
          refine L_pf (pc' := 126) rfl sh_215 (by decide) rfl rfl ?_
          refine L_let fun g6 _ => ?_
          refine L_s (pc' := 127) rfl rfl ?_
          refine L_ic (pc' := 128) rfl q1_m1 rfl ?_
          refine L_pf (pc' := 131) rfl sh_215 (by decide) rfl rfl ?_
          refine L_let fun g7 _ => ?_
          exact L_ret rfl rfl rfl
        · refine L_s (pc' := 109) rfl rfl ?_
          refine L_gf (pc' := 112) rfl fr_215_2 rfl ?_
          refine L_ic (pc' := 113) rfl q1_0 rfl ?_
          refine L_rIk (pc' := 114) (j := 0) rfl sh_218 (by decide) (by decide) (by decide) rfl ?_
          refine L_bi (pc' := 116) rfl q2_100 rfl ?_
          refine L_dvk (pc' := 117) rfl (by decide) rfl ?_
          refine L_s (pc' := 123) rfl rfl ?_
          refine L_pf (pc' := 126) rfl sh_215 (by decide) rfl rfl ?_
          refine L_let fun g8 _ => ?_
          refine L_s (pc' := 127) rfl rfl ?_
          refine L_ic (pc' := 128) rfl q1_m1 rfl ?_
          refine L_pf (pc' := 131) rfl sh_215 (by decide) rfl rfl ?_
          refine L_let fun g9 _ => ?_
          exact L_ret rfl rfl rfl
    · refine L_s (pc' := 20) rfl rfl ?_
      refine L_s (pc' := 21) rfl rfl ?_
      refine L_s (pc' := 22) rfl rfl ?_
      refine L_s (pc' := 23) rfl rfl ?_
      refine L_ci (pc' := 26) (as := [.ref 215]) (rest := [.int v2, .int v3, .ref 215]) rfl rfl (e_m_today (by omega) _) rfl fun x10 => ?_
      refine L_ci (pc' := 29) (as := [.ref 215, .int v3, .int v2, .int x10]) (rest := []) rfl rfl (e_m_owns (by omega) F _ _ _ _) rfl fun x11 => ?_
      refine L_s (pc' := 30) rfl rfl ?_
      refine L_br (t := 36) (n := 33) rfl rfl (fun _ => ?_) (fun _ => ?_)
      · refine L_s (pc' := 37) rfl rfl ?_
        refine L_s (pc' := 38) rfl rfl ?_
        refine L_gf (pc' := 41) rfl fi_215_14 rfl ?_
        refine L_ic (pc' := 42) rfl q1_1 rfl ?_
        refine L_s (pc' := 43) rfl rfl ?_
        refine L_pf (pc' := 46) rfl sh_215 (by decide) rfl rfl ?_
        refine L_let fun g12 _ => ?_
        refine L_s (pc' := 47) rfl rfl ?_
        refine L_s (pc' := 48) rfl rfl ?_
        refine L_gf (pc' := 51) rfl fi_215_15 rfl ?_
        refine L_s (pc' := 52) rfl rfl ?_
        refine L_bi (pc' := 54) rfl q2_24 rfl ?_
        refine L_rmk (pc' := 55) rfl (by decide) rfl ?_
        refine L_bi (pc' := 57) rfl q2_6 rfl ?_
        refine L_br (t := 69) (n := 60) rfl rfl (fun _ => ?_) (fun _ => ?_)
        · refine L_ic (pc' := 70) rfl q1_1 rfl ?_
          refine L_s (pc' := 74) rfl rfl ?_
          refine L_s (pc' := 75) rfl rfl ?_
          refine L_pf (pc' := 78) rfl sh_215 (by decide) rfl rfl ?_
          refine L_let fun g13 _ => ?_
          refine L_ii (pc' := 81) (L' := [some (.ref 215), some (.int v1), some (.int v2), some (.int (v3 + 1))]) rfl rfl q1_1 rfl rfl rfl ?_
          refine L_s (pc' := 12) rfl rfl ?_
          exact ih _ _ _ _
        · refine L_s (pc' := 61) rfl rfl ?_
          refine L_bi (pc' := 63) rfl q2_24 rfl ?_
          refine L_rmk (pc' := 64) rfl (by decide) rfl ?_
          refine L_bi (pc' := 66) rfl q2_18 rfl ?_
          refine L_br (t := 73) (n := 69) rfl rfl (fun _ => ?_) (fun _ => ?_)
          · refine L_ic (pc' := 74) rfl q1_0 rfl ?_
            refine L_s (pc' := 75) rfl rfl ?_
            refine L_pf (pc' := 78) rfl sh_215 (by decide) rfl rfl ?_
            refine L_let fun g14 _ => ?_
            refine L_ii (pc' := 81) (L' := [some (.ref 215), some (.int v1), some (.int v2), some (.int (v3 + 1))]) rfl rfl q1_1 rfl rfl rfl ?_
            refine L_s (pc' := 12) rfl rfl ?_
            exact ih _ _ _ _
          · refine L_ic (pc' := 70) rfl q1_1 rfl ?_
            refine L_s (pc' := 74) rfl rfl ?_
            refine L_s (pc' := 75) rfl rfl ?_
            refine L_pf (pc' := 78) rfl sh_215 (by decide) rfl rfl ?_
            refine L_let fun g15 _ => ?_
            refine L_ii (pc' := 81) (L' := [some (.ref 215), some (.int v1), some (.int v2), some (.int (v3 + 1))]) rfl rfl q1_1 rfl rfl rfl ?_
            refine L_s (pc' := 12) rfl rfl ?_
            exact ih _ _ _ _
      · refine L_s (pc' := 78) rfl rfl ?_
        refine L_ii (pc' := 81) (L' := [some (.ref 215), some (.int v1), some (.int v2), some (.int (v3 + 1))]) rfl rfl q1_1 rfl rfl rfl ?_
        refine L_s (pc' := 12) rfl rfl ?_
        exact ih _ _ _ _
theorem e_m_counts {X : Xx} {d : Nat} (hd : 4 ≤ d) (F : Nat) (v1 : Int32) (v2 : Int32) (g : Sg) : ∀ r, m_counts F v1 v2 g = some r → EvM zft mtl X d 208 [.ref 215, .int v1, .int v2] (SHF, g) ((fun r : Sg => ((none, (SHF, r)) : Out)) r) := by
  obtain ⟨d, rfl⟩ : ∃ d0, d = d0 + 1 := ⟨d - 1, by omega⟩
  have hd : 3 ≤ d := by omega
  refine E_in (f := (fun r : Sg => ((none, (SHF, r)) : Out))) rfl (Nat.le_of_ble_eq_true rfl) ?_
  unfold m_counts
  change Lt X d none k_208 _ 0 [some (.ref 215), some (.int v1), some (.int v2), none] [] g _
  refine L_s (pc' := 1) rfl rfl ?_
  refine L_ic (pc' := 2) rfl q1_0 rfl ?_
  refine L_pf (pc' := 5) rfl sh_215 (by decide) rfl rfl ?_
  refine L_let fun g1 _ => ?_
  refine L_s (pc' := 6) rfl rfl ?_
  refine L_ic (pc' := 7) rfl q1_0 rfl ?_
  refine L_pf (pc' := 10) rfl sh_215 (by decide) rfl rfl ?_
  refine L_let fun g2 _ => ?_
  refine L_ic (pc' := 11) rfl q1_0 rfl ?_
  refine L_s (pc' := 12) (L' := [some (.ref 215), some (.int v1), some (.int v2), some (.int 0)]) rfl rfl ?_
  exact p_m_counts_12 hd F F _ _ _ _
def m_owes (F : Nat) (v1 : Int32) (g : Sg) : Option (Int32 × Sg) :=
  (if (g 215 17) < 0 then
    Option.bind (m_owedTo F v1 g) (fun x1 => (if x1 ≤ 0 then
      lt1 (up2 g 215 17 0) (fun g2 => (some ((g2 215 17), g2)))
    else
      lt1 (up2 g 215 17 x1) (fun g3 => (some ((g3 215 17), g3)))))
  else
    (some ((g 215 17), g)))
theorem e_m_owes {X : Xx} {d : Nat} (hd : 4 ≤ d) (F : Nat) (v1 : Int32) (g : Sg) : ∀ r, m_owes F v1 g = some r → EvM zft mtl X d 210 [.ref 215, .int v1] (SHF, g) ((fun r : Int32 × Sg => ((some (.int r.1), (SHF, r.2)) : Out)) r) := by
  obtain ⟨d, rfl⟩ : ∃ d0, d = d0 + 1 := ⟨d - 1, by omega⟩
  have hd : 3 ≤ d := by omega
  refine E_in (f := (fun r : Int32 × Sg => ((some (.int r.1), (SHF, r.2)) : Out))) rfl (Nat.le_of_ble_eq_true rfl) ?_
  unfold m_owes
  change Lt X d (some .int) k_210 _ 0 [some (.ref 215), some (.int v1), none] [] g _
  refine L_s (pc' := 1) rfl rfl ?_
  refine L_gf (pc' := 4) rfl fi_215_17 rfl ?_
  refine L_br (t := 12) (n := 7) rfl rfl (fun _ => ?_) (fun _ => ?_)
  · refine L_s (pc' := 13) rfl rfl ?_
    refine L_s (pc' := 14) rfl rfl ?_
    refine L_ci (pc' := 17) (as := [.ref 215, .int v1]) (rest := []) rfl rfl (e_m_owedTo (by omega) F _ _) rfl fun x1 => ?_
    refine L_s (pc' := 18) (L' := [some (.ref 215), some (.int v1), some (.int x1)]) rfl rfl ?_
    refine L_s (pc' := 19) rfl rfl ?_
    refine L_s (pc' := 20) rfl rfl ?_
    refine L_br (t := 27) (n := 23) rfl rfl (fun _ => ?_) (fun _ => ?_)
    · refine L_ic (pc' := 28) rfl q1_0 rfl ?_
      refine L_pf (pc' := 31) rfl sh_215 (by decide) rfl rfl ?_
      refine L_let fun g2 _ => ?_
      refine L_s (pc' := 32) rfl rfl ?_
      refine L_gf (pc' := 35) rfl fi_215_17 rfl ?_
      exact L_ret rfl ret_i rfl
    · refine L_s (pc' := 24) rfl rfl ?_
      refine L_s (pc' := 28) rfl rfl ?_
      refine L_pf (pc' := 31) rfl sh_215 (by decide) rfl rfl ?_
      refine L_let fun g3 _ => ?_
      refine L_s (pc' := 32) rfl rfl ?_
      refine L_gf (pc' := 35) rfl fi_215_17 rfl ?_
      exact L_ret rfl ret_i rfl
  · refine L_s (pc' := 8) rfl rfl ?_
    refine L_gf (pc' := 11) rfl fi_215_17 rfl ?_
    exact L_ret rfl ret_i rfl
def m_asked (F : Nat) (v1 : Int32) (v2 : Int32) (v3 : Int32) (g : Sg) : Option (Int32 × Sg) :=
  (if v1 = 1 then
    (if inb (40 + v3) 20360 = true then (some ((g 216 (Int32.toNatClampNeg (40 + v3))), g)) else none)
  else (if v1 = 2 then
    (some ((g 215 14), g))
  else (if v1 = 3 then
    (some ((g 215 15), g))
  else (if v1 = 4 then
    (some ((g 215 16), g))
  else (if v1 = 5 then
    (some (v2, g))
  else Option.bind (m_owes F v2 g) (fun (x6, g7) => (some (x6, g7))))))))
theorem e_m_asked {X : Xx} {d : Nat} (hd : 5 ≤ d) (F : Nat) (v1 : Int32) (v2 : Int32) (v3 : Int32) (g : Sg) : ∀ r, m_asked F v1 v2 v3 g = some r → EvM zft mtl X d 209 [.ref 215, .int v1, .int v2, .int v3] (SHF, g) ((fun r : Int32 × Sg => ((some (.int r.1), (SHF, r.2)) : Out)) r) := by
  obtain ⟨d, rfl⟩ : ∃ d0, d = d0 + 1 := ⟨d - 1, by omega⟩
  have hd : 4 ≤ d := by omega
  refine E_in (f := (fun r : Int32 × Sg => ((some (.int r.1), (SHF, r.2)) : Out))) rfl (Nat.le_of_ble_eq_true rfl) ?_
  unfold m_asked
  change Lt X d (some .int) k_209 _ 0 [some (.ref 215), some (.int v1), some (.int v2), some (.int v3)] [] g _
  refine L_s (pc' := 1) rfl rfl ?_
  refine L_if (fun h1 => ?_) (fun h1 => ?_)
  · subst h1
    refine L_ts (t := 36) (off := 35) rfl (by decide) rfl ?_
    refine L_s (pc' := 37) rfl rfl ?_
    refine L_gf (pc' := 40) rfl fr_215_0 rfl ?_
    refine L_bi (pc' := 42) rfl q2_40 rfl ?_
    refine L_s (pc' := 43) rfl rfl ?_
    refine L_s (pc' := 44) rfl rfl ?_
    refine L_rI (pc' := 45) rfl sh_216 (by decide) rfl ?_
    exact L_ret rfl ret_i rfl
  refine L_if (fun h2 => ?_) (fun h2 => ?_)
  · subst h2
    refine L_ts (t := 46) (off := 45) rfl (by decide) rfl ?_
    refine L_s (pc' := 47) rfl rfl ?_
    refine L_gf (pc' := 50) rfl fi_215_14 rfl ?_
    exact L_ret rfl ret_i rfl
  refine L_if (fun h3 => ?_) (fun h3 => ?_)
  · subst h3
    refine L_ts (t := 51) (off := 50) rfl (by decide) rfl ?_
    refine L_s (pc' := 52) rfl rfl ?_
    refine L_gf (pc' := 55) rfl fi_215_15 rfl ?_
    exact L_ret rfl ret_i rfl
  refine L_if (fun h4 => ?_) (fun h4 => ?_)
  · subst h4
    refine L_ts (t := 56) (off := 55) rfl (by decide) rfl ?_
    refine L_s (pc' := 57) rfl rfl ?_
    refine L_gf (pc' := 60) rfl fi_215_16 rfl ?_
    exact L_ret rfl ret_i rfl
  refine L_if (fun h5 => ?_) (fun h5 => ?_)
  · subst h5
    refine L_ts (t := 61) (off := 60) rfl (by decide) rfl ?_
    refine L_s (pc' := 62) rfl rfl ?_
    exact L_ret rfl ret_i rfl
  refine L_ts (off := 62) (t := 63) rfl (twf_out (n := 5) (by decide) (by decide) (fun j hj => by
    match j, hj with
    | 0, _ => exact fun e => h1 (e.trans (by decide))
    | 1, _ => exact fun e => h2 (e.trans (by decide))
    | 2, _ => exact fun e => h3 (e.trans (by decide))
    | 3, _ => exact fun e => h4 (e.trans (by decide))
    | 4, _ => exact fun e => h5 (e.trans (by decide))
    | j + 5, hj => exact absurd hj (by omega))) rfl ?_
  refine L_s (pc' := 64) rfl rfl ?_
  refine L_s (pc' := 65) rfl rfl ?_
  refine L_cig (pc' := 68) (as := [.ref 215, .int v2]) (rest := []) rfl rfl (e_m_owes (by omega) F _ _) rfl fun x6 g7 => ?_
  exact L_ret rfl ret_i rfl
def m_holds_150 (k_6 : Int32 → Int32 → Int32 → Int32 → Int32 → Sg → Option (Int32 × Sg)) (v1 : Int32) (v2 : Int32) (v3 : Int32) (v5 : Int32) (s0 : Int32) (s1 : Int32) (g : Sg) : Option (Int32 × Sg) :=
  (if s1 = s0 then
    (k_6 v1 v2 v3 0 (v5 + 1) g)
  else
    (k_6 v1 v2 v3 1 (v5 + 1) g))
def m_holds_130 (k_6 : Int32 → Int32 → Int32 → Int32 → Int32 → Sg → Option (Int32 × Sg)) (v1 : Int32) (v2 : Int32) (v3 : Int32) (v5 : Int32) (v6 : Int32) (s0 : Int32) (g : Sg) : Option (Int32 × Sg) :=
  (if inb v6 20360 = true then (if ¬ (g 216 (Int32.toNatClampNeg v6)) = 1 then
    (m_holds_150 k_6 v1 v2 v3 v5 0 s0 g)
  else
    (m_holds_150 k_6 v1 v2 v3 v5 1 s0 g)) else none)
def m_holds_6 (F : Nat) : Nat → Int32 → Int32 → Int32 → Int32 → Int32 → Sg → Option (Int32 × Sg)
  | 0, _, _, _, _, _, _ => none
  | n + 1, v1, v2, v3, v4, v5, g =>
    (if inb v1 20360 = true then (if (g 216 (Int32.toNatClampNeg v1)) ≤ v5 then
      (if v4 = 0 ∨ v4 = 1 then (some (v4, g)) else none)
    else
      (if v4 = 0 then
        (if v4 = 0 ∨ v4 = 1 then (some (v4, g)) else none)
      else
        lt1 (((v1 + 1) + (4 * v5)) : Int32) (fun x1 => (if inb (x1 + 1) 20360 = true then Option.bind (m_asked F (g 216 (Int32.toNatClampNeg (x1 + 1))) v2 v3 g) (fun (x2, g3) => (if inb (x1 + 3) 20360 = true then lt1 ((g3 216 (Int32.toNatClampNeg (x1 + 3))) : Int32) (fun x4 => (if inb (x1 + 2) 20360 = true then (if ¬ (g3 216 (Int32.toNatClampNeg (x1 + 2))) = 60 then
          (if inb (x1 + 2) 20360 = true then (if ¬ (g3 216 (Int32.toNatClampNeg (x1 + 2))) = 62 then
            (if ¬ x2 = x4 then
              (m_holds_130 (fun v1 v2 v3 v4 v5 g0 => m_holds_6 F n v1 v2 v3 v4 v5 g0) v1 v2 v3 v5 x1 0 g3)
            else
              (m_holds_130 (fun v1 v2 v3 v4 v5 g0 => m_holds_6 F n v1 v2 v3 v4 v5 g0) v1 v2 v3 v5 x1 1 g3))
          else
            (if x2 ≤ x4 then
              (m_holds_130 (fun v1 v2 v3 v4 v5 g0 => m_holds_6 F n v1 v2 v3 v4 v5 g0) v1 v2 v3 v5 x1 0 g3)
            else
              (m_holds_130 (fun v1 v2 v3 v4 v5 g0 => m_holds_6 F n v1 v2 v3 v4 v5 g0) v1 v2 v3 v5 x1 1 g3))) else none)
        else
          (if x4 ≤ x2 then
            (m_holds_130 (fun v1 v2 v3 v4 v5 g0 => m_holds_6 F n v1 v2 v3 v4 v5 g0) v1 v2 v3 v5 x1 0 g3)
          else
            (m_holds_130 (fun v1 v2 v3 v4 v5 g0 => m_holds_6 F n v1 v2 v3 v4 v5 g0) v1 v2 v3 v5 x1 1 g3))) else none)) else none)) else none)))) else none)
def m_holds (F : Nat) (v1 : Int32) (v2 : Int32) (v3 : Int32) (g : Sg) : Option (Int32 × Sg) :=
  (m_holds_6 F F v1 v2 v3 1 0 g)
theorem p_m_holds_150 {X : Xx} {d : Nat} {k_6 : Int32 → Int32 → Int32 → Int32 → Int32 → Sg → Option (Int32 × Sg)} (hd : 5 ≤ d) (hk_6 : ∀ (v1 : Int32) (v2 : Int32) (v3 : Int32) (v4 : Int32) (v5 : Int32) (g : Sg), Lt X d (some .boolean) k_211 (fun r : Int32 × Sg => ((some (.int r.1), (SHF, r.2)) : Out)) 6 [some (.ref 215), some (.int v1), some (.int v2), some (.int v3), some (.int v4), some (.int v5), none, none, none, none] [] g (k_6 v1 v2 v3 v4 v5 g)) (v1 : Int32) (v2 : Int32) (v3 : Int32) (v5 : Int32) (s0 : Int32) (s1 : Int32) (g : Sg) : Lt X d (some .boolean) k_211 (fun r : Int32 × Sg => ((some (.int r.1), (SHF, r.2)) : Out)) 150 [some (.ref 215), some (.int v1), some (.int v2), some (.int v3), none, some (.int v5), none, none, none, none] [.int s0, .int s1] g (m_holds_150 k_6 v1 v2 v3 v5 s0 s1 g) := by
  unfold m_holds_150
  refine L_br (t := 157) (n := 153) rfl rfl (fun _ => ?_) (fun _ => ?_)
  · refine L_ic (pc' := 158) rfl q1_0 rfl ?_
    refine L_s (pc' := 160) (L' := [some (.ref 215), some (.int v1), some (.int v2), some (.int v3), some (.int 0), some (.int v5), none, none, none, none]) rfl rfl ?_
    refine L_ii (pc' := 163) (L' := [some (.ref 215), some (.int v1), some (.int v2), some (.int v3), some (.int 0), some (.int (v5 + 1)), none, none, none, none]) rfl rfl q1_1 rfl rfl rfl ?_
    refine L_s (pc' := 6) rfl rfl ?_
    exact hk_6 _ _ _ _ _ _
  · refine L_ic (pc' := 154) rfl q1_1 rfl ?_
    refine L_s (pc' := 158) rfl rfl ?_
    refine L_s (pc' := 160) (L' := [some (.ref 215), some (.int v1), some (.int v2), some (.int v3), some (.int 1), some (.int v5), none, none, none, none]) rfl rfl ?_
    refine L_ii (pc' := 163) (L' := [some (.ref 215), some (.int v1), some (.int v2), some (.int v3), some (.int 1), some (.int (v5 + 1)), none, none, none, none]) rfl rfl q1_1 rfl rfl rfl ?_
    refine L_s (pc' := 6) rfl rfl ?_
    exact hk_6 _ _ _ _ _ _
theorem p_m_holds_130 {X : Xx} {d : Nat} {k_6 : Int32 → Int32 → Int32 → Int32 → Int32 → Sg → Option (Int32 × Sg)} (hd : 5 ≤ d) (hk_6 : ∀ (v1 : Int32) (v2 : Int32) (v3 : Int32) (v4 : Int32) (v5 : Int32) (g : Sg), Lt X d (some .boolean) k_211 (fun r : Int32 × Sg => ((some (.int r.1), (SHF, r.2)) : Out)) 6 [some (.ref 215), some (.int v1), some (.int v2), some (.int v3), some (.int v4), some (.int v5), none, none, none, none] [] g (k_6 v1 v2 v3 v4 v5 g)) (v1 : Int32) (v2 : Int32) (v3 : Int32) (v5 : Int32) (v6 : Int32) (s0 : Int32) (g : Sg) : Lt X d (some .boolean) k_211 (fun r : Int32 × Sg => ((some (.int r.1), (SHF, r.2)) : Out)) 130 [some (.ref 215), some (.int v1), some (.int v2), some (.int v3), none, some (.int v5), some (.int v6), none, none, none] [.int s0] g (m_holds_130 k_6 v1 v2 v3 v5 v6 s0 g) := by
  unfold m_holds_130
  refine L_s (pc' := 132) (L' := [some (.ref 215), some (.int v1), some (.int v2), some (.int v3), none, some (.int v5), some (.int v6), none, none, some (.int s0)]) rfl rfl ?_
  refine L_s (pc' := 134) rfl rfl ?_
  refine L_s (pc' := 135) rfl rfl ?_
  refine L_gf (pc' := 138) rfl fr_215_0 rfl ?_
  refine L_s (pc' := 140) rfl rfl ?_
  refine L_rI (pc' := 141) rfl sh_216 (by decide) rfl ?_
  refine L_ic (pc' := 142) rfl q1_1 rfl ?_
  refine L_br (t := 149) (n := 145) rfl rfl (fun _ => ?_) (fun _ => ?_)
  · refine L_ic (pc' := 150) rfl q1_0 rfl ?_
    refine L_wk (L' := [some (.ref 215), some (.int v1), some (.int v2), some (.int v3), none, some (.int v5), none, none, none, none]) (wk_s (wk_s (wk_s (wk_s (wk_s (wk_s (wk_n (wk_s (wk_s (wk_n wk_nil)))))))))) ?_
    exact p_m_holds_150 hd hk_6 _ _ _ _ _ _ _
  · refine L_ic (pc' := 146) rfl q1_1 rfl ?_
    refine L_s (pc' := 150) rfl rfl ?_
    refine L_wk (L' := [some (.ref 215), some (.int v1), some (.int v2), some (.int v3), none, some (.int v5), none, none, none, none]) (wk_s (wk_s (wk_s (wk_s (wk_s (wk_s (wk_n (wk_s (wk_s (wk_n wk_nil)))))))))) ?_
    exact p_m_holds_150 hd hk_6 _ _ _ _ _ _ _
theorem p_m_holds_6 {X : Xx} {d : Nat} (hd : 5 ≤ d) (F : Nat) : ∀ (n : Nat) (v1 : Int32) (v2 : Int32) (v3 : Int32) (v4 : Int32) (v5 : Int32) (g : Sg), Lt X d (some .boolean) k_211 (fun r : Int32 × Sg => ((some (.int r.1), (SHF, r.2)) : Out)) 6 [some (.ref 215), some (.int v1), some (.int v2), some (.int v3), some (.int v4), some (.int v5), none, none, none, none] [] g (m_holds_6 F n v1 v2 v3 v4 v5 g) := by
  intro n
  induction n with
  | zero => intros; exact L_none
  | succ n ih =>
    intro v1 v2 v3 v4 v5 g
    show Lt X d (some .boolean) k_211 (fun r : Int32 × Sg => ((some (.int r.1), (SHF, r.2)) : Out)) 6 [some (.ref 215), some (.int v1), some (.int v2), some (.int v3), some (.int v4), some (.int v5), none, none, none, none] [] g (
      (if inb v1 20360 = true then (if (g 216 (Int32.toNatClampNeg v1)) ≤ v5 then
        (if v4 = 0 ∨ v4 = 1 then (some (v4, g)) else none)
      else
        (if v4 = 0 then
          (if v4 = 0 ∨ v4 = 1 then (some (v4, g)) else none)
        else
          lt1 (((v1 + 1) + (4 * v5)) : Int32) (fun x1 => (if inb (x1 + 1) 20360 = true then Option.bind (m_asked F (g 216 (Int32.toNatClampNeg (x1 + 1))) v2 v3 g) (fun (x2, g3) => (if inb (x1 + 3) 20360 = true then lt1 ((g3 216 (Int32.toNatClampNeg (x1 + 3))) : Int32) (fun x4 => (if inb (x1 + 2) 20360 = true then (if ¬ (g3 216 (Int32.toNatClampNeg (x1 + 2))) = 60 then
            (if inb (x1 + 2) 20360 = true then (if ¬ (g3 216 (Int32.toNatClampNeg (x1 + 2))) = 62 then
              (if ¬ x2 = x4 then
                (m_holds_130 (fun v1 v2 v3 v4 v5 g0 => m_holds_6 F n v1 v2 v3 v4 v5 g0) v1 v2 v3 v5 x1 0 g3)
              else
                (m_holds_130 (fun v1 v2 v3 v4 v5 g0 => m_holds_6 F n v1 v2 v3 v4 v5 g0) v1 v2 v3 v5 x1 1 g3))
            else
              (if x2 ≤ x4 then
                (m_holds_130 (fun v1 v2 v3 v4 v5 g0 => m_holds_6 F n v1 v2 v3 v4 v5 g0) v1 v2 v3 v5 x1 0 g3)
              else
                (m_holds_130 (fun v1 v2 v3 v4 v5 g0 => m_holds_6 F n v1 v2 v3 v4 v5 g0) v1 v2 v3 v5 x1 1 g3))) else none)
          else
            (if x4 ≤ x2 then
              (m_holds_130 (fun v1 v2 v3 v4 v5 g0 => m_holds_6 F n v1 v2 v3 v4 v5 g0) v1 v2 v3 v5 x1 0 g3)
            else
              (m_holds_130 (fun v1 v2 v3 v4 v5 g0 => m_holds_6 F n v1 v2 v3 v4 v5 g0) v1 v2 v3 v5 x1 1 g3))) else none)) else none)) else none)))) else none))
    refine L_s (pc' := 8) rfl rfl ?_
    refine L_s (pc' := 9) rfl rfl ?_
    refine L_gf (pc' := 12) rfl fr_215_0 rfl ?_
    refine L_s (pc' := 13) rfl rfl ?_
    refine L_rI (pc' := 14) rfl sh_216 (by decide) rfl ?_
    refine L_br (t := 166) (n := 17) rfl rfl (fun _ => ?_) (fun _ => ?_)
    · refine L_s (pc' := 168) rfl rfl ?_
      exact L_g fun h => L_ret rfl (ret_z h) rfl
    · refine L_s (pc' := 19) rfl rfl ?_
      refine L_br (t := 166) (n := 22) rfl rfl (fun _ => ?_) (fun _ => ?_)
      · refine L_s (pc' := 168) rfl rfl ?_
        exact L_g fun h => L_ret rfl (ret_z h) rfl
      · refine L_s (pc' := 23) rfl rfl ?_
        refine L_ic (pc' := 24) rfl q1_1 rfl ?_
        refine L_s (pc' := 25) rfl rfl ?_
        refine L_ic (pc' := 26) rfl q1_4 rfl ?_
        refine L_s (pc' := 28) rfl rfl ?_
        refine L_s (pc' := 29) rfl rfl ?_
        refine L_s (pc' := 30) rfl rfl ?_
        refine L_li fun x1 _ => ?_
        refine L_s (pc' := 32) (L' := [some (.ref 215), some (.int v1), some (.int v2), some (.int v3), some (.int v4), some (.int v5), some (.int x1), none, none, none]) rfl rfl ?_
        refine L_s (pc' := 33) rfl rfl ?_
        refine L_s (pc' := 34) rfl rfl ?_
        refine L_gf (pc' := 37) rfl fr_215_0 rfl ?_
        refine L_s (pc' := 39) rfl rfl ?_
        refine L_ic (pc' := 40) rfl q1_1 rfl ?_
        refine L_s (pc' := 41) rfl rfl ?_
        refine L_rI (pc' := 42) rfl sh_216 (by decide) rfl ?_
        refine L_s (pc' := 43) rfl rfl ?_
        refine L_s (pc' := 44) rfl rfl ?_
        refine L_cig (pc' := 47) (as := [.ref 215, .int (g 216 (Int32.toNatClampNeg (x1 + 1))), .int v2, .int v3]) (rest := []) rfl rfl (e_m_asked (by omega) F _ _ _ _) rfl fun x2 g3 => ?_
        refine L_s (pc' := 49) (L' := [some (.ref 215), some (.int v1), some (.int v2), some (.int v3), some (.int v4), some (.int v5), some (.int x1), some (.int x2), none, none]) rfl rfl ?_
        refine L_s (pc' := 50) rfl rfl ?_
        refine L_gf (pc' := 53) rfl fr_215_0 rfl ?_
        refine L_s (pc' := 55) rfl rfl ?_
        refine L_ic (pc' := 56) rfl q1_3 rfl ?_
        refine L_s (pc' := 57) rfl rfl ?_
        refine L_rI (pc' := 58) rfl sh_216 (by decide) rfl ?_
        refine L_li fun x4 _ => ?_
        refine L_s (pc' := 60) (L' := [some (.ref 215), some (.int v1), some (.int v2), some (.int v3), some (.int v4), some (.int v5), some (.int x1), some (.int x2), some (.int x4), none]) rfl rfl ?_
        refine L_s (pc' := 61) rfl rfl ?_
        refine L_gf (pc' := 64) rfl fr_215_0 rfl ?_
        refine L_s (pc' := 66) rfl rfl ?_
        refine L_ic (pc' := 67) rfl q1_2 rfl ?_
        refine L_s (pc' := 68) rfl rfl ?_
        refine L_rI (pc' := 69) rfl sh_216 (by decide) rfl ?_
        refine L_bi (pc' := 71) rfl q2_60 rfl ?_
        refine L_br (t := 89) (n := 74) rfl rfl (fun _ => ?_) (fun _ => ?_)
        · refine L_s (pc' := 90) rfl rfl ?_
          refine L_gf (pc' := 93) rfl fr_215_0 rfl ?_
          refine L_s (pc' := 95) rfl rfl ?_
          refine L_ic (pc' := 96) rfl q1_2 rfl ?_
          refine L_s (pc' := 97) rfl rfl ?_
          refine L_rI (pc' := 98) rfl sh_216 (by decide) rfl ?_
          refine L_bi (pc' := 100) rfl q2_62 rfl ?_
          refine L_br (t := 118) (n := 103) rfl rfl (fun _ => ?_) (fun _ => ?_)
          · refine L_s (pc' := 120) rfl rfl ?_
            refine L_s (pc' := 122) rfl rfl ?_
            refine L_br (t := 129) (n := 125) rfl rfl (fun _ => ?_) (fun _ => ?_)
            · refine L_ic (pc' := 130) rfl q1_0 rfl ?_
              refine L_wk (L' := [some (.ref 215), some (.int v1), some (.int v2), some (.int v3), none, some (.int v5), some (.int x1), none, none, none]) (wk_s (wk_s (wk_s (wk_s (wk_n (wk_s (wk_s (wk_n (wk_n (wk_s wk_nil)))))))))) ?_
              exact p_m_holds_130 hd (fun _ _ _ _ _ _ => ih _ _ _ _ _ _) _ _ _ _ _ _ _
            · refine L_ic (pc' := 126) rfl q1_1 rfl ?_
              refine L_s (pc' := 130) rfl rfl ?_
              refine L_wk (L' := [some (.ref 215), some (.int v1), some (.int v2), some (.int v3), none, some (.int v5), some (.int x1), none, none, none]) (wk_s (wk_s (wk_s (wk_s (wk_n (wk_s (wk_s (wk_n (wk_n (wk_s wk_nil)))))))))) ?_
              exact p_m_holds_130 hd (fun _ _ _ _ _ _ => ih _ _ _ _ _ _) _ _ _ _ _ _ _
          · refine L_s (pc' := 105) rfl rfl ?_
            refine L_s (pc' := 107) rfl rfl ?_
            refine L_br (t := 114) (n := 110) rfl rfl (fun _ => ?_) (fun _ => ?_)
            · refine L_ic (pc' := 115) rfl q1_0 rfl ?_
              refine L_s (pc' := 130) rfl rfl ?_
              refine L_wk (L' := [some (.ref 215), some (.int v1), some (.int v2), some (.int v3), none, some (.int v5), some (.int x1), none, none, none]) (wk_s (wk_s (wk_s (wk_s (wk_n (wk_s (wk_s (wk_n (wk_n (wk_s wk_nil)))))))))) ?_
              exact p_m_holds_130 hd (fun _ _ _ _ _ _ => ih _ _ _ _ _ _) _ _ _ _ _ _ _
            · refine L_ic (pc' := 111) rfl q1_1 rfl ?_
              refine L_s (pc' := 130) rfl rfl ?_
              refine L_wk (L' := [some (.ref 215), some (.int v1), some (.int v2), some (.int v3), none, some (.int v5), some (.int x1), none, none, none]) (wk_s (wk_s (wk_s (wk_s (wk_n (wk_s (wk_s (wk_n (wk_n (wk_s wk_nil)))))))))) ?_
              exact p_m_holds_130 hd (fun _ _ _ _ _ _ => ih _ _ _ _ _ _) _ _ _ _ _ _ _
        · refine L_s (pc' := 76) rfl rfl ?_
          refine L_s (pc' := 78) rfl rfl ?_
          refine L_br (t := 85) (n := 81) rfl rfl (fun _ => ?_) (fun _ => ?_)
          · refine L_ic (pc' := 86) rfl q1_0 rfl ?_
            refine L_s (pc' := 130) rfl rfl ?_
            refine L_wk (L' := [some (.ref 215), some (.int v1), some (.int v2), some (.int v3), none, some (.int v5), some (.int x1), none, none, none]) (wk_s (wk_s (wk_s (wk_s (wk_n (wk_s (wk_s (wk_n (wk_n (wk_s wk_nil)))))))))) ?_
            exact p_m_holds_130 hd (fun _ _ _ _ _ _ => ih _ _ _ _ _ _) _ _ _ _ _ _ _
          · refine L_ic (pc' := 82) rfl q1_1 rfl ?_
            refine L_s (pc' := 130) rfl rfl ?_
            refine L_wk (L' := [some (.ref 215), some (.int v1), some (.int v2), some (.int v3), none, some (.int v5), some (.int x1), none, none, none]) (wk_s (wk_s (wk_s (wk_s (wk_n (wk_s (wk_s (wk_n (wk_n (wk_s wk_nil)))))))))) ?_
            exact p_m_holds_130 hd (fun _ _ _ _ _ _ => ih _ _ _ _ _ _) _ _ _ _ _ _ _
theorem e_m_holds {X : Xx} {d : Nat} (hd : 6 ≤ d) (F : Nat) (v1 : Int32) (v2 : Int32) (v3 : Int32) (g : Sg) : ∀ r, m_holds F v1 v2 v3 g = some r → EvM zft mtl X d 211 [.ref 215, .int v1, .int v2, .int v3] (SHF, g) ((fun r : Int32 × Sg => ((some (.int r.1), (SHF, r.2)) : Out)) r) := by
  obtain ⟨d, rfl⟩ : ∃ d0, d = d0 + 1 := ⟨d - 1, by omega⟩
  have hd : 5 ≤ d := by omega
  refine E_in (f := (fun r : Int32 × Sg => ((some (.int r.1), (SHF, r.2)) : Out))) rfl (Nat.le_of_ble_eq_true rfl) ?_
  unfold m_holds
  change Lt X d (some .boolean) k_211 _ 0 [some (.ref 215), some (.int v1), some (.int v2), some (.int v3), none, none, none, none, none, none] [] g _
  refine L_ic (pc' := 1) rfl q1_1 rfl ?_
  refine L_s (pc' := 3) (L' := [some (.ref 215), some (.int v1), some (.int v2), some (.int v3), some (.int 1), none, none, none, none, none]) rfl rfl ?_
  refine L_ic (pc' := 4) rfl q1_0 rfl ?_
  refine L_s (pc' := 6) (L' := [some (.ref 215), some (.int v1), some (.int v2), some (.int v3), some (.int 1), some (.int 0), none, none, none, none]) rfl rfl ?_
  exact p_m_holds_6 hd F F _ _ _ _ _ _
