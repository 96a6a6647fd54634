/-! image, again -/
/-- what a copy of all that is told does, in its order: (0, cell, place) one number, (1, cell, length) a row -/
def OPS : List (Nat × Nat × Nat) := [(0, 2, 0), (0, 2, 1), (0, 2, 6), (1, 3, 10), (1, 4, 10), (1, 5, 10), (1, 9, 14), (1, 10, 14), (1, 11, 14), (1, 12, 14), (1, 13, 14), (1, 14, 14), (1, 15, 14), (1, 7, 10), (1, 17, 126), (1, 8, 10), (1, 18, 126), (1, 19, 2), (1, 20, 2), (1, 21, 2), (1, 23, 8), (0, 22, 1), (1, 24, 120), (1, 25, 120), (1, 26, 120), (1, 27, 120), (1, 28, 120), (1, 29, 120), (0, 22, 8), (1, 30, 2400), (0, 31, 0), (1, 32, 500), (0, 31, 2), (0, 31, 3), (0, 33, 0), (1, 34, 16), (1, 35, 16), (1, 36, 16), (1, 37, 64), (1, 38, 64), (1, 39, 64), (1, 40, 64), (1, 41, 100), (0, 42, 0), (1, 43, 150), (1, 44, 150), (1, 45, 150), (1, 46, 150)]
def doOp (s t : Nat) (g : Sg) (o : Nat × Nat × Nat) : Sg := if o.1 = 0 then up2 g (t + o.2.1) o.2.2 (g (s + o.2.1) o.2.2) else cp2 g (s + o.2.1) 0 (t + o.2.1) 0 o.2.2
def runOps (s t : Nat) : List (Nat × Nat × Nat) → Sg → Sg
  | [], g => g
  | o :: l, g => runOps s t l (doOp s t g o)
def cov (o : Nat × Nat × Nat) (i j : Nat) : Prop := o.2.1 = i ∧ ((o.1 = 0 ∧ o.2.2 = j) ∨ (o.1 = 1 ∧ j < o.2.2))
def okCell (i j : Nat) : Prop := ∃ o, o ∈ OPS ∧ cov o i j
theorem doOp_fr {s t : Nat} {g : Sg} {o : Nat × Nat × Nat} {c : Nat} (h : c ≠ t + o.2.1) : doOp s t g o c = g c := by
  funext k
  unfold doOp
  split
  · exact if_neg (fun e => h e.1)
  · exact if_neg (fun e => h e.1)
theorem doOp_y {s t : Nat} {g : Sg} {o : Nat × Nat × Nat} {i j : Nat} (h : cov o i j) : doOp s t g o (t + i) j = g (s + i) j := by
  obtain ⟨rfl, h⟩ := h
  unfold doOp
  rcases h with ⟨h1, rfl⟩ | ⟨h1, h2⟩
  · rw [if_pos h1]
    exact if_pos ⟨rfl, rfl⟩
  · rw [if_neg (by omega)]
    refine (if_pos ⟨rfl, Nat.zero_le _, by omega⟩).trans ?_
    rw [Nat.zero_add, Nat.sub_zero]
theorem doOp_k {s t : Nat} {g : Sg} {o : Nat × Nat × Nat} {i j : Nat} {v : Int32} (h : g (t + i) j = v) (h2 : g (s + i) j = v) : doOp s t g o (t + i) j = v := by
  unfold doOp
  split
  · unfold up2
    split
    · rename_i e
      rw [← h2, ← e.2, show o.2.1 = i by omega]
    · exact h
  · unfold cp2
    split
    · rename_i e
      rw [Nat.zero_add, Nat.sub_zero, show o.2.1 = i by omega]
      exact h2
    · exact h
theorem runOps_fr {s t : Nat} {c : Nat} : ∀ (l : List (Nat × Nat × Nat)) (g : Sg), (∀ o, o ∈ l → c ≠ t + o.2.1) → runOps s t l g c = g c
  | [], _, _ => rfl
  | o :: l, g, h => (runOps_fr l _ (fun o2 h2 => h o2 (List.mem_cons_of_mem _ h2))).trans (doOp_fr (h o List.mem_cons_self))
theorem runOps_y {s t i j : Nat} {v : Int32} : ∀ (l : List (Nat × Nat × Nat)) (g : Sg), (∀ o, o ∈ l → s + i ≠ t + o.2.1) → g (s + i) j = v → (g (t + i) j = v ∨ ∃ o, o ∈ l ∧ cov o i j) → runOps s t l g (t + i) j = v
  | [], _, _, _, h => by
    rcases h with h | ⟨o, h, _⟩
    · exact h
    · exact absurd h List.not_mem_nil
  | o :: l, g, hd, hv, h => by
    refine runOps_y l _ (fun o2 h2 => hd o2 (List.mem_cons_of_mem _ h2)) ((congrFun (doOp_fr (hd o List.mem_cons_self)) j).trans hv) ?_
    rcases h with h | ⟨o2, h1, h2⟩
    · exact Or.inl (doOp_k h hv)
    · rcases List.mem_cons.mp h1 with rfl | h1
      · exact Or.inl ((doOp_y h2).trans hv)
      · exact Or.inr ⟨o2, h1, h2⟩
theorem OPS_r : ∀ o, o ∈ OPS → 2 ≤ o.2.1 ∧ o.2.1 ≤ 46 := by decide
theorem okCell_r {i j : Nat} (h : okCell i j) : 2 ≤ i ∧ i ≤ 46 := by
  obtain ⟨o, h1, h2, h3⟩ := h
  have := OPS_r o h1
  omega
/-- the copy from s to t, the two blocks apart -/
theorem copy_y {s t i j : Nat} {g : Sg} (hst : s + 47 ≤ t ∨ t + 47 ≤ s) (h : okCell i j) : runOps s t OPS g (t + i) j = g (s + i) j := by
  have hr := okCell_r h
  exact runOps_y OPS g (fun o ho => by have := OPS_r o ho; omega) rfl (Or.inr h)
theorem copy_fr {s t c : Nat} {g : Sg} (h : c < t + 2 ∨ t + 46 < c) : runOps s t OPS g c = g c := runOps_fr OPS g (fun o ho => by have := OPS_r o ho; omega)
theorem ok_2_0 : okCell 2 0 := ⟨(0, 2, 0), by decide, rfl, Or.inl ⟨rfl, rfl⟩⟩
theorem ok_2_1 : okCell 2 1 := ⟨(0, 2, 1), by decide, rfl, Or.inl ⟨rfl, rfl⟩⟩
theorem ok_2_6 : okCell 2 6 := ⟨(0, 2, 6), by decide, rfl, Or.inl ⟨rfl, rfl⟩⟩
theorem ok_3 {j : Nat} (h : j < 10) : okCell 3 j := ⟨(1, 3, 10), by decide, rfl, Or.inr ⟨rfl, h⟩⟩
theorem ok_4 {j : Nat} (h : j < 10) : okCell 4 j := ⟨(1, 4, 10), by decide, rfl, Or.inr ⟨rfl, h⟩⟩
theorem ok_5 {j : Nat} (h : j < 10) : okCell 5 j := ⟨(1, 5, 10), by decide, rfl, Or.inr ⟨rfl, h⟩⟩
theorem ok_9 {j : Nat} (h : j < 14) : okCell 9 j := ⟨(1, 9, 14), by decide, rfl, Or.inr ⟨rfl, h⟩⟩
theorem ok_10 {j : Nat} (h : j < 14) : okCell 10 j := ⟨(1, 10, 14), by decide, rfl, Or.inr ⟨rfl, h⟩⟩
theorem ok_11 {j : Nat} (h : j < 14) : okCell 11 j := ⟨(1, 11, 14), by decide, rfl, Or.inr ⟨rfl, h⟩⟩
theorem ok_12 {j : Nat} (h : j < 14) : okCell 12 j := ⟨(1, 12, 14), by decide, rfl, Or.inr ⟨rfl, h⟩⟩
theorem ok_13 {j : Nat} (h : j < 14) : okCell 13 j := ⟨(1, 13, 14), by decide, rfl, Or.inr ⟨rfl, h⟩⟩
theorem ok_14 {j : Nat} (h : j < 14) : okCell 14 j := ⟨(1, 14, 14), by decide, rfl, Or.inr ⟨rfl, h⟩⟩
theorem ok_15 {j : Nat} (h : j < 14) : okCell 15 j := ⟨(1, 15, 14), by decide, rfl, Or.inr ⟨rfl, h⟩⟩
theorem ok_7 {j : Nat} (h : j < 10) : okCell 7 j := ⟨(1, 7, 10), by decide, rfl, Or.inr ⟨rfl, h⟩⟩
theorem ok_17 {j : Nat} (h : j < 126) : okCell 17 j := ⟨(1, 17, 126), by decide, rfl, Or.inr ⟨rfl, h⟩⟩
theorem ok_8 {j : Nat} (h : j < 10) : okCell 8 j := ⟨(1, 8, 10), by decide, rfl, Or.inr ⟨rfl, h⟩⟩
theorem ok_18 {j : Nat} (h : j < 126) : okCell 18 j := ⟨(1, 18, 126), by decide, rfl, Or.inr ⟨rfl, h⟩⟩
theorem ok_19 {j : Nat} (h : j < 2) : okCell 19 j := ⟨(1, 19, 2), by decide, rfl, Or.inr ⟨rfl, h⟩⟩
theorem ok_20 {j : Nat} (h : j < 2) : okCell 20 j := ⟨(1, 20, 2), by decide, rfl, Or.inr ⟨rfl, h⟩⟩
theorem ok_21 {j : Nat} (h : j < 2) : okCell 21 j := ⟨(1, 21, 2), by decide, rfl, Or.inr ⟨rfl, h⟩⟩
theorem ok_23 {j : Nat} (h : j < 8) : okCell 23 j := ⟨(1, 23, 8), by decide, rfl, Or.inr ⟨rfl, h⟩⟩
theorem ok_22_1 : okCell 22 1 := ⟨(0, 22, 1), by decide, rfl, Or.inl ⟨rfl, rfl⟩⟩
theorem ok_24 {j : Nat} (h : j < 120) : okCell 24 j := ⟨(1, 24, 120), by decide, rfl, Or.inr ⟨rfl, h⟩⟩
theorem ok_25 {j : Nat} (h : j < 120) : okCell 25 j := ⟨(1, 25, 120), by decide, rfl, Or.inr ⟨rfl, h⟩⟩
theorem ok_26 {j : Nat} (h : j < 120) : okCell 26 j := ⟨(1, 26, 120), by decide, rfl, Or.inr ⟨rfl, h⟩⟩
theorem ok_27 {j : Nat} (h : j < 120) : okCell 27 j := ⟨(1, 27, 120), by decide, rfl, Or.inr ⟨rfl, h⟩⟩
theorem ok_28 {j : Nat} (h : j < 120) : okCell 28 j := ⟨(1, 28, 120), by decide, rfl, Or.inr ⟨rfl, h⟩⟩
theorem ok_29 {j : Nat} (h : j < 120) : okCell 29 j := ⟨(1, 29, 120), by decide, rfl, Or.inr ⟨rfl, h⟩⟩
theorem ok_22_8 : okCell 22 8 := ⟨(0, 22, 8), by decide, rfl, Or.inl ⟨rfl, rfl⟩⟩
theorem ok_30 {j : Nat} (h : j < 2400) : okCell 30 j := ⟨(1, 30, 2400), by decide, rfl, Or.inr ⟨rfl, h⟩⟩
theorem ok_31_0 : okCell 31 0 := ⟨(0, 31, 0), by decide, rfl, Or.inl ⟨rfl, rfl⟩⟩
theorem ok_32 {j : Nat} (h : j < 500) : okCell 32 j := ⟨(1, 32, 500), by decide, rfl, Or.inr ⟨rfl, h⟩⟩
theorem ok_31_2 : okCell 31 2 := ⟨(0, 31, 2), by decide, rfl, Or.inl ⟨rfl, rfl⟩⟩
theorem ok_31_3 : okCell 31 3 := ⟨(0, 31, 3), by decide, rfl, Or.inl ⟨rfl, rfl⟩⟩
theorem ok_33_0 : okCell 33 0 := ⟨(0, 33, 0), by decide, rfl, Or.inl ⟨rfl, rfl⟩⟩
theorem ok_34 {j : Nat} (h : j < 16) : okCell 34 j := ⟨(1, 34, 16), by decide, rfl, Or.inr ⟨rfl, h⟩⟩
theorem ok_35 {j : Nat} (h : j < 16) : okCell 35 j := ⟨(1, 35, 16), by decide, rfl, Or.inr ⟨rfl, h⟩⟩
theorem ok_36 {j : Nat} (h : j < 16) : okCell 36 j := ⟨(1, 36, 16), by decide, rfl, Or.inr ⟨rfl, h⟩⟩
theorem ok_37 {j : Nat} (h : j < 64) : okCell 37 j := ⟨(1, 37, 64), by decide, rfl, Or.inr ⟨rfl, h⟩⟩
theorem ok_38 {j : Nat} (h : j < 64) : okCell 38 j := ⟨(1, 38, 64), by decide, rfl, Or.inr ⟨rfl, h⟩⟩
theorem ok_39 {j : Nat} (h : j < 64) : okCell 39 j := ⟨(1, 39, 64), by decide, rfl, Or.inr ⟨rfl, h⟩⟩
theorem ok_40 {j : Nat} (h : j < 64) : okCell 40 j := ⟨(1, 40, 64), by decide, rfl, Or.inr ⟨rfl, h⟩⟩
theorem ok_41 {j : Nat} (h : j < 100) : okCell 41 j := ⟨(1, 41, 100), by decide, rfl, Or.inr ⟨rfl, h⟩⟩
theorem ok_42_0 : okCell 42 0 := ⟨(0, 42, 0), by decide, rfl, Or.inl ⟨rfl, rfl⟩⟩
theorem ok_43 {j : Nat} (h : j < 150) : okCell 43 j := ⟨(1, 43, 150), by decide, rfl, Or.inr ⟨rfl, h⟩⟩
theorem ok_44 {j : Nat} (h : j < 150) : okCell 44 j := ⟨(1, 44, 150), by decide, rfl, Or.inr ⟨rfl, h⟩⟩
theorem ok_45 {j : Nat} (h : j < 150) : okCell 45 j := ⟨(1, 45, 150), by decide, rfl, Or.inr ⟨rfl, h⟩⟩
theorem ok_46 {j : Nat} (h : j < 150) : okCell 46 j := ⟨(1, 46, 150), by decide, rfl, Or.inr ⟨rfl, h⟩⟩
theorem RNet.agr {c c' : Sg} {a a' : Nat → Int32} {N C Q : Nat} (h : RNet c a N C Q) (A : ∀ i j, okCell i j → c' i j = c i j) (B : ∀ j, j < 5090 → a' j = a j) : RNet c' a' N C Q := by
  have hN := h.hN
  have hC := h.hC
  apply RNet.mk
  case hN => exact h.hN
  case hC => exact h.hC
  case hQ => exact h.hQ
  case cN => rw [A 2 1 ok_2_1]; exact h.cN
  case aN => rw [B _ (by omega)]; exact h.aN
  case cC => rw [A 2 6 ok_2_6]; exact h.cC
  case aC => rw [B _ (by omega)]; exact h.aC
  case cQ => rw [A 2 0 ok_2_0]; exact h.cQ
  case aQ => rw [B _ (by omega)]; exact h.aQ
  case kind => intro n hn; rw [B _ (by omega), A 3 _ (ok_3 (by omega))]; exact h.kind n hn
  case size => intro n hn; rw [B _ (by omega), A 4 _ (ok_4 (by omega))]; exact h.size n hn
  case gate => intro n hn; rw [B _ (by omega), A 5 _ (ok_5 (by omega))]; exact h.gate n hn
  case kep0 => intro n hn; rw [B _ (by omega), A 7 _ (ok_7 (by omega))]; exact h.kep0 n hn
  case kep1 => intro n hn; rw [B _ (by omega), A 8 _ (ok_8 (by omega))]; exact h.kep1 n hn
  case frm => intro n hn; rw [B _ (by omega), A 9 _ (ok_9 (by omega))]; exact h.frm n hn
  case to => intro n hn; rw [B _ (by omega), A 10 _ (ok_10 (by omega))]; exact h.to n hn
  case low => intro n hn; rw [B _ (by omega), A 11 _ (ok_11 (by omega))]; exact h.low n hn
  case hig => intro n hn; rw [B _ (by omega), A 12 _ (ok_12 (by omega))]; exact h.hig n hn
  case trv => intro n hn; rw [B _ (by omega), A 13 _ (ok_13 (by omega))]; exact h.trv n hn
  case brd => intro n hn; rw [B _ (by omega), A 14 _ (ok_14 (by omega))]; exact h.brd n hn
  case brk => intro n hn; rw [B _ (by omega), A 15 _ (ok_15 (by omega))]; exact h.brk n hn
  case way0 => intro n hn; rw [B _ (by omega), A 17 _ (ok_17 (by omega))]; exact h.way0 n hn
  case way1 => intro n hn; rw [B _ (by omega), A 18 _ (ok_18 (by omega))]; exact h.way1 n hn
  case gateV => 
    intro n hn
    rw [A 5 _ (ok_5 (by omega))]
    rcases h.gateV n hn with e | ⟨k, h1, h2, h3⟩
    · exact Or.inl e
    · exact Or.inr ⟨k, h1, h2, by rw [A 9 _ (ok_9 (by omega))]; exact h3⟩
  case ends => intro n hn; rw [A 9 _ (ok_9 (by omega)), A 10 _ (ok_10 (by omega))]; exact h.ends n hn
  case lowV => intro n hn; rw [A 11 _ (ok_11 (by omega))]; exact h.lowV n hn
  case higV => intro n hn; rw [A 12 _ (ok_12 (by omega))]; exact h.higV n hn
  case trvV => intro n hn; rw [A 13 _ (ok_13 (by omega))]; exact h.trvV n hn
  case brdV => intro n hn; rw [A 14 _ (ok_14 (by omega))]; exact h.brdV n hn
  case brkV => intro n hn; rw [A 15 _ (ok_15 (by omega))]; exact h.brkV n hn
  case kindV => intro n hn; rw [A 3 _ (ok_3 (by omega))]; exact h.kindV n hn
  case kepZ => intro n hn h9; rw [A 7 _ (ok_7 h9), A 8 _ (ok_8 h9)]; exact h.kepZ n hn h9
  case brkZ => intro n hn h9; rw [A 15 _ (ok_15 h9)]; exact h.brkZ n hn h9
  case wayZ => intro n hn h9; rw [A 17 _ (ok_17 h9), A 18 _ (ok_18 h9)]; exact h.wayZ n hn h9
  case su00 => 
    rw [B _ (by omega), h.su00]
    exact sumTo_congr (fun i hi => by simp only [A 3 i (ok_3 hi), A 7 i (ok_7 hi)])
  case su01 => 
    rw [B _ (by omega), h.su01]
    exact sumTo_congr (fun i hi => by simp only [A 3 i (ok_3 hi), A 7 i (ok_7 hi)])
  case su02 => 
    rw [B _ (by omega), h.su02]
    exact sumTo_congr (fun i hi => by simp only [A 3 i (ok_3 hi), A 7 i (ok_7 hi)])
  case su03 => 
    rw [B _ (by omega), h.su03]
    exact sumTo_congr (fun i hi => (A 17 i (ok_17 hi)).symm)
  case su04 => rw [B _ (by omega), A 19 0 (ok_19 (by omega))]; exact h.su04
  case su05 => rw [B _ (by omega), A 20 0 (ok_20 (by omega))]; exact h.su05
  case su06 => rw [B _ (by omega), A 21 0 (ok_21 (by omega))]; exact h.su06
  case su10 => 
    rw [B _ (by omega), h.su10]
    exact sumTo_congr (fun i hi => by simp only [A 3 i (ok_3 hi), A 8 i (ok_8 hi)])
  case su11 => 
    rw [B _ (by omega), h.su11]
    exact sumTo_congr (fun i hi => by simp only [A 3 i (ok_3 hi), A 8 i (ok_8 hi)])
  case su12 => 
    rw [B _ (by omega), h.su12]
    exact sumTo_congr (fun i hi => by simp only [A 3 i (ok_3 hi), A 8 i (ok_8 hi)])
  case su13 => 
    rw [B _ (by omega), h.su13]
    exact sumTo_congr (fun i hi => (A 18 i (ok_18 hi)).symm)
  case su14 => rw [B _ (by omega), A 19 1 (ok_19 (by omega))]; exact h.su14
  case su15 => rw [B _ (by omega), A 20 1 (ok_20 (by omega))]; exact h.su15
  case su16 => rw [B _ (by omega), A 21 1 (ok_21 (by omega))]; exact h.su16
theorem RRig.agr {c c' : Sg} {a a' : Nat → Int32} {D N Q : Nat} (h : RRig c a D N Q) (A : ∀ i j, okCell i j → c' i j = c i j) (B : ∀ j, j < 5090 → a' j = a j) : RRig c' a' D N Q := by
  have hD := h.hD
  apply RRig.mk
  case hD => exact h.hD
  case cD => rw [A 22 1 ok_22_1]; exact h.cD
  case aD => rw [B _ (by omega)]; exact h.aD
  case home => intro n hn; rw [B _ (by omega), A 23 _ (ok_23 (by omega))]; exact h.home n hn
  case homeV => intro n hn; rw [A 23 _ (ok_23 (by omega))]; exact h.homeV n hn
  case d0 => intro n hn; rw [B _ (by omega), A 24 _ (ok_24 (by omega))]; exact h.d0 n hn
  case d1 => intro n hn; rw [B _ (by omega), A 25 _ (ok_25 (by omega))]; exact h.d1 n hn
  case d2 => intro n hn; rw [B _ (by omega), A 26 _ (ok_26 (by omega))]; exact h.d2 n hn
  case d3 => intro n hn; rw [B _ (by omega), A 27 _ (ok_27 (by omega))]; exact h.d3 n hn
  case d4 => intro n hn; rw [B _ (by omega), A 28 _ (ok_28 (by omega))]; exact h.d4 n hn
  case d5 => intro n hn; rw [B _ (by omega), A 29 _ (ok_29 (by omega))]; exact h.d5 n hn
  case dFL => intro n hn; rw [A 24 _ (ok_24 (by omega)), A 25 _ (ok_25 (by omega))]; exact h.dFL n hn
  case dW => intro n hn; rw [A 26 _ (ok_26 (by omega))]; exact h.dW n hn
  case dS => intro n hn; rw [A 27 _ (ok_27 (by omega))]; exact h.dS n hn
  case dY => intro n hn; rw [A 28 _ (ok_28 (by omega))]; exact h.dY n hn
  case dV => intro n hn; rw [A 29 _ (ok_29 (by omega))]; exact h.dV n hn
  case cR => rw [A 22 8 ok_22_8]; exact h.cR
  case aR => rw [B _ (by omega)]; exact h.aR
  case runs => intro n hn; rw [B _ (by omega), A 30 _ (ok_30 (by omega))]; exact h.runs n hn
  case runV => intro n hn; rw [A 30 _ (ok_30 (by omega))]; exact h.runV n hn
theorem tLine_ag {ac nu te no fa si li ac' nu' te' no' fa' si' li' : Nat → Int32} {k i : Nat} {a : Nat → Int32} (hk : k < 16) (h1 : ∀ j, j < 16 → ac' j = ac j) (h2 : ∀ j, j < 16 → nu' j = nu j) (h3 : ∀ j, j < 16 → te' j = te j) (h4 : ∀ j, j < 64 → no' j = no j) (h5 : ∀ j, j < 64 → fa' j = fa j) (h6 : ∀ j, j < 64 → si' j = si j) (h7 : ∀ j, j < 64 → li' j = li j) (h : tLine ac nu te no fa si li k a i) : tLine ac' nu' te' no' fa' si' li' k a i := by
  obtain ⟨⟨n, g1, g2, g3, g4⟩, g5, g6, g7⟩ := h
  refine ⟨⟨n, g1, (h3 k hk).trans g2, g3, fun t ht => ?_⟩, ?_, ?_, ?_⟩
  · rw [h4 _ (by omega), h5 _ (by omega), h6 _ (by omega), h7 _ (by omega)]
    exact g4 t ht
  · rw [h1 k hk]; exact g5
  · rw [h2 k hk]; exact g6
  · rw [h2 k hk]; exact g7
theorem RLaw.agr {c c' : Sg} {a a' : Nat → Int32} {T L : Nat} (h : RLaw c a T L) (A : ∀ i j, okCell i j → c' i j = c i j) (B : ∀ j, j < 5090 → a' j = a j) : RLaw c' a' T L := by
  have hT := h.hT
  have hL := h.hL
  apply RLaw.mk
  case hT => exact h.hT
  case hL => exact h.hL
  case cT => rw [A 31 0 ok_31_0]; exact h.cT
  case aT => rw [B _ (by omega)]; exact h.aT
  case tape => intro n hn; rw [B _ (by omega), A 32 _ (ok_32 (by omega))]; exact h.tape n hn
  case tapeV => intro n hn; rw [A 32 _ (ok_32 (by omega))]; exact h.tapeV n hn
  case fk => rw [B _ (by omega), A 31 2 ok_31_2]; exact h.fk
  case fp => rw [B _ (by omega), A 31 3 ok_31_3]; exact h.fp
  case dry => intro n hn; rw [B _ (by omega), A 41 _ (ok_41 (by omega))]; exact h.dry n hn
  case dryV => intro n hn; rw [A 41 _ (ok_41 (by omega))]; exact h.dryV n hn
  case cL => rw [A 33 0 ok_33_0]; exact h.cL
  case aL => rw [B _ (by omega)]; exact h.aL
  case ln => 
    intro k hk
    refine tLine_fr (i := 4270 + 20 * k) (fun j hj => B _ (by omega)) ?_
    exact tLine_ag (by omega) (fun j hj => A 34 j (ok_34 hj)) (fun j hj => A 35 j (ok_35 hj)) (fun j hj => A 36 j (ok_36 hj)) (fun j hj => A 37 j (ok_37 hj)) (fun j hj => A 38 j (ok_38 hj)) (fun j hj => A 39 j (ok_39 hj)) (fun j hj => A 40 j (ok_40 hj)) (h.ln k hk)
theorem RGau.agr {c c' : Sg} {a a' : Nat → Int32} {G C Q : Nat} (h : RGau c a G C Q) (A : ∀ i j, okCell i j → c' i j = c i j) (B : ∀ j, j < 5090 → a' j = a j) : RGau c' a' G C Q := by
  have hG := h.hG
  apply RGau.mk
  case hG => exact h.hG
  case cG => rw [A 42 0 ok_42_0]; exact h.cG
  case aG => rw [B _ (by omega)]; exact h.aG
  case g0 => intro n hn; rw [B _ (by omega), A 43 _ (ok_43 (by omega))]; exact h.g0 n hn
  case g1 => intro n hn; rw [B _ (by omega), A 44 _ (ok_44 (by omega))]; exact h.g1 n hn
  case g2 => intro n hn; rw [B _ (by omega), A 45 _ (ok_45 (by omega))]; exact h.g2 n hn
  case g3 => intro n hn; rw [B _ (by omega), A 46 _ (ok_46 (by omega))]; exact h.g3 n hn
  case gC => intro n hn; rw [A 43 _ (ok_43 (by omega))]; exact h.gC n hn
  case gQ => intro n hn; rw [A 44 _ (ok_44 (by omega))]; exact h.gQ n hn
  case gI => intro n hn; rw [A 45 _ (ok_45 (by omega))]; exact h.gI n hn
  case gO => intro n hn; rw [A 46 _ (ok_46 (by omega))]; exact h.gO n hn
theorem RT.agr {c c' : Sg} {a a' : Nat → Int32} (h : RT c a) (A : ∀ i j, okCell i j → c' i j = c i j) (B : ∀ j, j < 5090 → a' j = a j) : RT c' a' := by
  obtain ⟨N, C, Q, D, T, L, G, h⟩ := h
  exact ⟨N, C, Q, D, T, L, G, RTn.mk (h.net.agr A B) (h.rig.agr A B) (h.law.agr A B) (h.gau.agr A B)⟩
set_option maxRecDepth 100000 in
theorem told_copyFrom_eq (g : Sg) : told_copyFrom g = some (runOps 0 47 OPS g) := rfl
set_option maxRecDepth 100000 in
theorem told_copyFrom_c1_eq (g : Sg) : told_copyFrom_c1 g = some (runOps 0 93 OPS g) := rfl
set_option maxRecDepth 100000 in
theorem told_copyFrom_c2_eq (g : Sg) : told_copyFrom_c2 g = some (runOps 0 139 OPS g) := rfl
set_option maxRecDepth 100000 in
theorem told_copyFrom_c3_eq (g : Sg) : told_copyFrom_c3 g = some (runOps 47 0 OPS g) := rfl
set_option maxRecDepth 100000 in
theorem told_copyFrom_c4_eq (g : Sg) : told_copyFrom_c4 g = some (runOps 93 0 OPS g) := rfl
set_option maxRecDepth 100000 in
theorem told_copyFrom_c5_eq (g : Sg) : told_copyFrom_c5 g = some (runOps 139 0 OPS g) := rfl
theorem cpS {g : Sg} {a i b j n : Nat} (h : ¬ (a = b ∧ j ≤ i + n ∧ i + n < j + n)) : up2 (cp2 g a i b j n) b (j + n) (cp2 g a i b j n a (i + n)) = cp2 g a i b j (n + 1) := by
  have e : cp2 g a i b j n a (i + n) = g a (i + n) := if_neg h
  funext c k
  rw [e]
  unfold up2 cp2
  by_cases h1 : c = b
  · by_cases h2 : k = j + n
    · rw [if_pos ⟨h1.symm ▸ rfl, h2⟩, if_pos ⟨h1, by omega, by omega⟩, h2, Nat.add_sub_cancel_left]
    · rw [if_neg (fun q => h2 q.2)]
      by_cases h3 : j ≤ k ∧ k < j + n
      · rw [if_pos ⟨h1, h3⟩, if_pos ⟨h1, by omega, by omega⟩]
      · rw [if_neg (fun q => h3 q.2), if_neg (fun q => h3 ⟨q.2.1, by omega⟩)]
  · rw [if_neg (fun q => h1 q.1), if_neg (fun q => h1 q.1), if_neg (fun q => h1 q.1)]
theorem cp0 {g : Sg} {a i b j : Nat} : cp2 g a i b j 0 = g := by
  funext c k
  exact if_neg (by omega)
theorem imgL {g : Sg} {k : Nat} (hk : k < 3) : ∀ m j F, j + m = 5090 → m < F → m_image_20 F (nn k) (nn j) (cp2 g 216 0 216 (5090 * (k + 1)) j) = some (1, cp2 g 216 0 216 (5090 * (k + 1)) 5090) := by
  intro m
  induction m with
  | zero =>
    intro j F hj hF
    obtain ⟨F, rfl⟩ : ∃ F2, F = F2 + 1 := ⟨F - 1, by omega⟩
    have : j = 5090 := by omega
    subst this
    unfold m_image_20
    exact if_pos (by decide)
  | succ m ih =>
    intro j F hj hF
    obtain ⟨F, rfl⟩ : ∃ F2, F = F2 + 1 := ⟨F - 1, by omega⟩
    have h2 : ¬ 5090 ≤ j := by omega
    have h1 : j < 20360 := by omega
    have h3 : 5090 * (k + 1) + j < 20360 := by omega
    unfold m_image_20
    refine st_f (by simp (disch := first | omega | decide) only [lt1, nnMl, nnMr, nnAl, nnAr, nnA, nnM, nnB, nnT, nnP, nnE, nnEl, nnEr, nnL, nnLl, nnLr, nnQ, nnQr, nnN, Nat.add_zero, if_false, if_true, Option.bind_some, not_true, not_false_iff, not_true_eq_false, not_false_eq_true, eq_self, Nat.not_lt_zero, z10, z01, or_true, true_or, or_false, false_or, true_and, false_and, h2]) (st_t (by simp (disch := first | omega | decide) only [lt1, nnMl, nnMr, nnAl, nnAr, nnA, nnM, nnB, nnT, nnP, nnE, nnEl, nnEr, nnL, nnLl, nnLr, nnQ, nnQr, nnN, Nat.add_zero, if_false, if_true, Option.bind_some, not_true, not_false_iff, not_true_eq_false, not_false_eq_true, eq_self, Nat.not_lt_zero, z10, z01, or_true, true_or, or_false, false_or, true_and, false_and, h1]) (st_w (by simp (disch := first | omega | decide) only [lt1, nnMl, nnMr, nnAl, nnAr, nnA, nnM, nnB, nnT, nnP, nnE, nnEl, nnEr, nnL, nnLl, nnLr, nnQ, nnQr, nnN, Nat.add_zero, if_false, if_true, Option.bind_some, not_true, not_false_iff, not_true_eq_false, not_false_eq_true, eq_self, Nat.not_lt_zero, z10, z01, or_true, true_or, or_false, false_or, true_and, false_and, h3]) ?_))
    refine Eq.trans ?_ (ih (j + 1) F (by omega) (by omega))
    rw [← cpS (g := g) (a := 216) (i := 0) (b := 216) (j := 5090 * (k + 1)) (n := j) (by omega), Nat.zero_add]
    simp (disch := first | omega | decide) only [lt1, nnMl, nnMr, nnAl, nnAr, nnA, nnM, nnB, nnT, nnP, nnE, nnEl, nnEr, nnL, nnLl, nnLr, nnQ, nnQr, nnN, Nat.add_zero, if_false, if_true, Option.bind_some, not_true, not_false_iff, not_true_eq_false, not_false_eq_true, eq_self, Nat.not_lt_zero, z10, z01, or_true, true_or, or_false, false_or, true_and, false_and]
theorem agnL {g : Sg} {k : Nat} (hk : k < 3) : ∀ m j F, j + m = 5090 → m < F → m_again_22 F (nn k) (nn j) (cp2 g 216 (5090 * (k + 1)) 216 0 j) = some (1, cp2 g 216 (5090 * (k + 1)) 216 0 5090) := by
  intro m
  induction m with
  | zero =>
    intro j F hj hF
    obtain ⟨F, rfl⟩ : ∃ F2, F = F2 + 1 := ⟨F - 1, by omega⟩
    have : j = 5090 := by omega
    subst this
    unfold m_again_22
    exact if_pos (by decide)
  | succ m ih =>
    intro j F hj hF
    obtain ⟨F, rfl⟩ : ∃ F2, F = F2 + 1 := ⟨F - 1, by omega⟩
    have h2 : ¬ 5090 ≤ j := by omega
    have h1 : j < 20360 := by omega
    have h3 : 5090 * (k + 1) + j < 20360 := by omega
    unfold m_again_22
    refine st_f (by simp (disch := first | omega | decide) only [lt1, nnMl, nnMr, nnAl, nnAr, nnA, nnM, nnB, nnT, nnP, nnE, nnEl, nnEr, nnL, nnLl, nnLr, nnQ, nnQr, nnN, Nat.add_zero, if_false, if_true, Option.bind_some, not_true, not_false_iff, not_true_eq_false, not_false_eq_true, eq_self, Nat.not_lt_zero, z10, z01, or_true, true_or, or_false, false_or, true_and, false_and, h2]) (st_t (by simp (disch := first | omega | decide) only [lt1, nnMl, nnMr, nnAl, nnAr, nnA, nnM, nnB, nnT, nnP, nnE, nnEl, nnEr, nnL, nnLl, nnLr, nnQ, nnQr, nnN, Nat.add_zero, if_false, if_true, Option.bind_some, not_true, not_false_iff, not_true_eq_false, not_false_eq_true, eq_self, Nat.not_lt_zero, z10, z01, or_true, true_or, or_false, false_or, true_and, false_and, h3]) (st_w (by simp (disch := first | omega | decide) only [lt1, nnMl, nnMr, nnAl, nnAr, nnA, nnM, nnB, nnT, nnP, nnE, nnEl, nnEr, nnL, nnLl, nnLr, nnQ, nnQr, nnN, Nat.add_zero, if_false, if_true, Option.bind_some, not_true, not_false_iff, not_true_eq_false, not_false_eq_true, eq_self, Nat.not_lt_zero, z10, z01, or_true, true_or, or_false, false_or, true_and, false_and, h1]) ?_))
    refine Eq.trans ?_ (ih (j + 1) F (by omega) (by omega))
    rw [← cpS (g := g) (a := 216) (i := 5090 * (k + 1)) (b := 216) (j := 0) (n := j) (by omega), Nat.zero_add]
    simp (disch := first | omega | decide) only [lt1, nnMl, nnMr, nnAl, nnAr, nnA, nnM, nnB, nnT, nnP, nnE, nnEl, nnEr, nnL, nnLl, nnLr, nnQ, nnQr, nnN, Nat.add_zero, if_false, if_true, Option.bind_some, not_true, not_false_iff, not_true_eq_false, not_false_eq_true, eq_self, Nat.not_lt_zero, z10, z01, or_true, true_or, or_false, false_or, true_and, false_and]
theorem cp_o {g : Sg} {a i b j n c k : Nat} (h : c ≠ b ∨ k < j ∨ j + n ≤ k) : cp2 g a i b j n c k = g c k := if_neg (by omega)
theorem cp_c {g : Sg} {a i b j n c : Nat} (h : c ≠ b) : cp2 g a i b j n c = g c := funext (fun k => cp_o (Or.inl h))
theorem cp_i {g : Sg} {a i b j n k : Nat} (h : k < n) : cp2 g a i b j n b (j + k) = g a (i + k) := by
  refine (if_pos ⟨rfl, by omega, by omega⟩).trans ?_
  rw [Nat.add_sub_cancel_left]
section SI
theorem sim_image {TS : Sg → Prop} (hT : TSf TS) : Sim_image (RR TS) := by
  intro v1 g hR
  rcases chk v1 2 2 rfl (by decide) with ⟨k, hk, rfl, x1, m1⟩ | ⟨x1, m1⟩
  · have hk3 : k < 3 := by omega
    have h9 : 47 + 46 * k < 187 - 46 := by omega
    refine ⟨0, 5091, 1, up2 (runOps 0 (47 + 46 * k) OPS g) 186 k 1, cp2 (up2 (up2 (runOps 0 (47 + 46 * k) OPS g) 186 k 1) 217 k 1) 216 0 216 (5090 * (k + 1)) 5090, ?_, ?_, ?_⟩
    · have c3 : k = 0 ∨ k = 1 ∨ k = 2 := by omega
      unfold x_image
      rcases c3 with rfl | rfl | rfl
      · refine st_t rfl (st_b (x1 g) (st_f (by decide) ?_))
        exact st_b (told_copyFrom_eq g) rfl
      · refine st_f (by decide) (st_t rfl (st_b (x1 g) (st_f (by decide) ?_)))
        exact st_b (told_copyFrom_c1_eq g) rfl
      · refine st_f (by decide) (st_f (by decide) (st_t rfl (st_b (x1 g) (st_f (by decide) ?_))))
        exact st_b (told_copyFrom_c2_eq g) rfl
    · unfold m_image
      refine st_b (m1 _) (st_t (by decide) (st_w (by simp (disch := first | omega | decide) only [lt1, nnMl, nnMr, nnAl, nnAr, nnA, nnM, nnB, nnT, nnP, nnE, nnEl, nnEr, nnL, nnLl, nnLr, nnQ, nnQr, nnN, Nat.add_zero, if_false, if_true, Option.bind_some, not_true, not_false_iff, not_true_eq_false, not_false_eq_true, eq_self, Nat.not_lt_zero, z10, z01, or_true, true_or, or_false, false_or, true_and, false_and, hk3]) ?_))
      refine Eq.trans ?_ (imgL (g := up2 (up2 (runOps 0 (47 + 46 * k) OPS g) 186 k 1) 217 k 1) hk3 5090 0 5091 (by omega) (by omega))
      rw [cp0, nnT (by omega)]
      rfl
    · have E : ∀ c, c ≠ 216 → c ≠ 217 → c ≠ 186 → (c < 47 + 46 * k + 2 ∨ 47 + 46 * k + 46 < c) → cp2 (up2 (up2 (runOps 0 (47 + 46 * k) OPS g) 186 k 1) 217 k 1) 216 0 216 (5090 * (k + 1)) 5090 c = g c := fun c e1 e2 e3 e4 => by
        rw [cp_c e1, u2n e2, u2n e3, copy_fr e4]
      have E6 : ∀ j, (j < 5090 * (k + 1) ∨ 5090 * (k + 1) + 5090 ≤ j) → cp2 (up2 (up2 (runOps 0 (47 + 46 * k) OPS g) 186 k 1) 217 k 1) 216 0 216 (5090 * (k + 1)) 5090 216 j = g 216 j := fun j e => by
        rw [cp_o (Or.inr e), u2n (by omega), u2n (by omega), copy_fr (by omega)]
      have E7 : cp2 (up2 (up2 (runOps 0 (47 + 46 * k) OPS g) 186 k 1) 217 k 1) 216 0 216 (5090 * (k + 1)) 5090 217 = up1 (g 217) k 1 := by
        rw [cp_c (by omega), u2e, u2n (by omega), copy_fr (by omega)]
      have E8 : cp2 (up2 (up2 (runOps 0 (47 + 46 * k) OPS g) 186 k 1) 217 k 1) 216 0 216 (5090 * (k + 1)) 5090 186 = up1 (g 186) k 1 := by
        rw [cp_c (by omega), u2n (by omega), u2e, copy_fr (by omega)]
      refine RR.mk ?_ ?_ ?_
      · exact hR.now.fr (fun i e1 e2 => E i (by omega) (by omega) (by omega) (by omega)) (fun j hj => E6 j (by omega))
      · intro m hm
        rw [E7, E8]
        by_cases e : m = k
        · subst e
          rw [up1_eq, up1_eq]
          refine ⟨rfl, Or.inr rfl, fun _ => ?_⟩
          refine hR.now.agr (fun i j hij => ?_) (fun j hj => ?_)
          · have hr := okCell_r hij
            show cp2 _ _ _ _ _ _ (i + (47 + 46 * m)) j = _
            rw [cp_c (by omega), u2n (by omega), u2n (by omega), Nat.add_comm i, copy_y (by omega) hij, Nat.zero_add]
          · show cp2 _ _ _ _ _ _ 216 (5090 * (m + 1) + j) = _
            rw [cp_i hj, u2n (by omega), u2n (by omega), copy_fr (by omega), Nat.zero_add]
        · rw [up1_ne e, up1_ne e]
          obtain ⟨h1, h2, h3⟩ := hR.img m hm
          refine ⟨h1, h2, fun h4 => (h3 h4).fr (fun i e1 e2 => ?_) (fun j hj => ?_)⟩
          · exact E _ (by omega) (by omega) (by omega) (by omega)
          · exact E6 _ (by omega)
      · exact hT g _ (fun i e1 e2 => E i (by omega) (by omega) (by omega) (by omega)) hR.trn
  · refine ⟨0, 0, 0, g, g, ?_, ?_, hR⟩
    · have ne : ∀ k : Nat, k ≤ 2 → ¬ v1 = nn k := fun k hk e => by
        have := x1 g
        rw [e] at this
        rw [show x_within (nn k) 0 2 g = some 1 from wthK_y (K := 2) rfl (by decide) hk] at this
        exact absurd (Option.some.inj this) (by decide)
      unfold x_image
      exact st_f (ne 0 (by decide)) (st_f (ne 1 (by decide)) (st_f (ne 2 (by decide)) (st_b (x1 g) (st_t rfl rfl))))
    · unfold m_image
      exact st_b (m1 g) (st_f (by decide) rfl)
theorem sim_again {TS : Sg → Prop} (hT : TSf TS) : Sim_again (RR TS) := by
  intro v1 g hR
  rcases chk v1 2 2 rfl (by decide) with ⟨k, hk, rfl, x1, m1⟩ | ⟨x1, m1⟩
  · have hk3 : k < 3 := by omega
    have c3 : k = 0 ∨ k = 1 ∨ k = 2 := by omega
    obtain ⟨h1, h2, h3⟩ := hR.img k hk3
    by_cases hi : g 186 k = 0
    · refine ⟨0, 0, 0, g, g, ?_, ?_, hR⟩
      · unfold x_again
        rcases c3 with rfl | rfl | rfl
        · exact st_t rfl (st_b (x1 g) (st_f (by decide) (st_t hi rfl)))
        · exact st_f (by decide) (st_t rfl (st_b (x1 g) (st_f (by decide) (st_t hi rfl))))
        · exact st_f (by decide) (st_f (by decide) (st_t rfl (st_b (x1 g) (st_f (by decide) (st_t hi rfl)))))
      · unfold m_again
        refine st_b (m1 _) (st_f (by decide) (st_t (by simp (disch := first | omega | decide) only [lt1, nnMl, nnMr, nnAl, nnAr, nnA, nnM, nnB, nnT, nnP, nnE, nnEl, nnEr, nnL, nnLl, nnLr, nnQ, nnQr, nnN, Nat.add_zero, if_false, if_true, Option.bind_some, not_true, not_false_iff, not_true_eq_false, not_false_eq_true, eq_self, Nat.not_lt_zero, z10, z01, or_true, true_or, or_false, false_or, true_and, false_and, hk3]) (st_f ?_ rfl)))
        rw [nnT (by omega), h1, hi]
        exact fun e => e rfl
    · have h4 : g 186 k = 1 := h2.resolve_left hi
      refine ⟨0, 5091, 1, runOps (47 + 46 * k) 0 OPS g, cp2 (runOps (47 + 46 * k) 0 OPS g) 216 (5090 * (k + 1)) 216 0 5090, ?_, ?_, ?_⟩
      · unfold x_again
        rcases c3 with rfl | rfl | rfl
        · exact st_t rfl (st_b (x1 g) (st_f (by decide) (st_f hi (st_b (told_copyFrom_c3_eq g) rfl))))
        · exact st_f (by decide) (st_t rfl (st_b (x1 g) (st_f (by decide) (st_f hi (st_b (told_copyFrom_c4_eq g) rfl)))))
        · exact st_f (by decide) (st_f (by decide) (st_t rfl (st_b (x1 g) (st_f (by decide) (st_f hi (st_b (told_copyFrom_c5_eq g) rfl))))))
      · unfold m_again
        refine st_b (m1 _) (st_f (by decide) (st_t (by simp (disch := first | omega | decide) only [lt1, nnMl, nnMr, nnAl, nnAr, nnA, nnM, nnB, nnT, nnP, nnE, nnEl, nnEr, nnL, nnLl, nnLr, nnQ, nnQr, nnN, Nat.add_zero, if_false, if_true, Option.bind_some, not_true, not_false_iff, not_true_eq_false, not_false_eq_true, eq_self, Nat.not_lt_zero, z10, z01, or_true, true_or, or_false, false_or, true_and, false_and, hk3]) (st_t ?_ ?_)))
        · rw [nnT (by omega), copy_fr (by omega), h1, h4]
          decide
        · refine Eq.trans ?_ (agnL (g := runOps (47 + 46 * k) 0 OPS g) hk3 5090 0 5091 (by omega) (by omega))
          rw [cp0]
          rfl
      · have E : ∀ c, c ≠ 216 → 46 < c → cp2 (runOps (47 + 46 * k) 0 OPS g) 216 (5090 * (k + 1)) 216 0 5090 c = g c := fun c e1 e4 => by
          rw [cp_c e1, copy_fr (by omega)]
        refine RR.mk ?_ ?_ ?_
        · refine (h3 h4).agr (fun i j hij => ?_) (fun j hj => ?_)
          · have hr := okCell_r hij
            show cp2 _ _ _ _ _ _ i j = g (i + (47 + 46 * k)) j
            have := copy_y (s := 47 + 46 * k) (t := 0) (g := g) (by omega) hij
            rw [cp_c (by omega), ← Nat.zero_add i, this, Nat.zero_add, Nat.add_comm i]
          · show cp2 _ _ _ _ _ _ 216 j = g 216 (5090 * (k + 1) + j)
            have := cp_i (g := runOps (47 + 46 * k) 0 OPS g) (a := 216) (i := 5090 * (k + 1)) (b := 216) (j := 0) hj
            rw [← Nat.zero_add j, this, Nat.zero_add, copy_fr (by omega)]
        · exact hR.img.fr (fun i e1 e2 => E i (by omega) (by omega)) (fun j hj => by rw [cp_o (by omega), copy_fr (by omega)]) (E 217 (by omega) (by omega))
        · exact hT g _ (fun i e1 e2 => E i (by omega) (by omega)) hR.trn
  · refine ⟨0, 0, 0, g, g, ?_, ?_, hR⟩
    · have ne : ∀ k : Nat, k ≤ 2 → ¬ v1 = nn k := fun k hk e => by
        have := x1 g
        rw [e] at this
        rw [show x_within (nn k) 0 2 g = some 1 from wthK_y (K := 2) rfl (by decide) hk] at this
        exact absurd (Option.some.inj this) (by decide)
      unfold x_again
      exact st_f (ne 0 (by decide)) (st_f (ne 1 (by decide)) (st_f (ne 2 (by decide)) (st_b (x1 g) (st_t rfl rfl))))
    · unfold m_again
      exact st_b (m1 g) (st_t rfl rfl)
end SI
