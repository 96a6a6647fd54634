section
/-! The relation between the class's memory and the model's -/
def sumTo (f : Nat → Int32) : Nat → Int32
  | 0 => 0
  | n + 1 => sumTo f n + f n
def nn (n : Nat) : Int32 := Int32.ofNat n
def RNet (c : Sg) (a : Nat → Int32) (N C Q : Nat) : Prop :=
  (N ≤ 10) ∧
  (C ≤ 14) ∧
  (Q ≤ 9599) ∧
  (c 2 1 = nn N) ∧
  (a 0 = nn N) ∧
  (c 2 6 = nn C) ∧
  (a 1 = nn C) ∧
  (c 2 0 = nn Q) ∧
  (a 3 = nn Q) ∧
  (∀ n, n < 10 → a (140 + 5 * n) = c 3 n) ∧
  (∀ n, n < 10 → a (140 + 5 * n + 1) = c 4 n) ∧
  (∀ n, n < 10 → a (140 + 5 * n + 2) = c 5 n) ∧
  (∀ n, n < 10 → a (140 + 5 * n + 3) = c 7 n) ∧
  (∀ n, n < 10 → a (140 + 5 * n + 4) = c 8 n) ∧
  (∀ j, j < 14 → a (190 + 7 * j) = c 9 j) ∧
  (∀ j, j < 14 → a (190 + 7 * j + 1) = c 10 j) ∧
  (∀ j, j < 14 → a (190 + 7 * j + 2) = c 11 j) ∧
  (∀ j, j < 14 → a (190 + 7 * j + 3) = c 12 j) ∧
  (∀ j, j < 14 → a (190 + 7 * j + 4) = c 13 j) ∧
  (∀ j, j < 14 → a (190 + 7 * j + 5) = c 14 j) ∧
  (∀ j, j < 14 → a (190 + 7 * j + 6) = c 15 j) ∧
  (∀ i, i < 126 → a (290 + i) = c 17 i) ∧
  (∀ i, i < 126 → a (416 + i) = c 18 i) ∧
  (∀ n, n < N → c 5 n = -1 ∨ ∃ k, k < C ∧ c 5 n = nn k ∧ c 9 k = nn n) ∧
  (∀ j, j < C → ∃ f t, f < t ∧ t < N ∧ c 9 j = nn f ∧ c 10 j = nn t) ∧
  (∀ j, j < C → ∃ v, v ≤ 500 ∧ c 11 j = nn v) ∧
  (∀ j, j < C → ∃ v, v ≤ 500 ∧ c 12 j = nn v) ∧
  (∀ j, j < C → ∃ v, v ≤ 8 ∧ c 13 j = nn v) ∧
  (∀ j, j < C → ∃ v, 1 ≤ v ∧ v ≤ 9999 ∧ c 14 j = nn v) ∧
  (∀ j, j < 14 → c 15 j = 0 ∨ c 15 j = 1) ∧
  (∀ n, n < N → ∃ k, k ≤ 4 ∧ c 3 n = nn k) ∧
  (∀ n, N ≤ n → n < 10 → c 7 n = 0 ∧ c 8 n = 0) ∧
  (∀ j, C ≤ j → j < 14 → c 15 j = 0) ∧
  (∀ i, 9 * C ≤ i → i < 126 → c 17 i = 0 ∧ c 18 i = 0) ∧
  (a 10 = sumTo (fun n => if c 3 n = 0 then c 7 n else 0) 10) ∧
  (a 11 = sumTo (fun n => if c 3 n = 4 then c 7 n else 0) 10) ∧
  (a 12 = sumTo (fun n => if c 3 n = 2 then c 7 n else 0) 10) ∧
  (a 13 = sumTo (c 17) 126) ∧
  (a 14 = c 19 0) ∧
  (a 15 = c 20 0) ∧
  (a 16 = c 21 0) ∧
  (a 17 = sumTo (fun n => if c 3 n = 0 then c 8 n else 0) 10) ∧
  (a 18 = sumTo (fun n => if c 3 n = 4 then c 8 n else 0) 10) ∧
  (a 19 = sumTo (fun n => if c 3 n = 2 then c 8 n else 0) 10) ∧
  (a 20 = sumTo (c 18) 126) ∧
  (a 21 = c 19 1) ∧
  (a 22 = c 20 1) ∧
  (a 23 = c 21 1)
theorem RNet.hN {c : Sg} {a : Nat → Int32} {N C Q : Nat} (h : RNet c a N C Q) : N ≤ 10 := h.1
theorem RNet.hC {c : Sg} {a : Nat → Int32} {N C Q : Nat} (h : RNet c a N C Q) : C ≤ 14 := h.2.1
theorem RNet.hQ {c : Sg} {a : Nat → Int32} {N C Q : Nat} (h : RNet c a N C Q) : Q ≤ 9599 := h.2.2.1
theorem RNet.cN {c : Sg} {a : Nat → Int32} {N C Q : Nat} (h : RNet c a N C Q) : c 2 1 = nn N := h.2.2.2.1
theorem RNet.aN {c : Sg} {a : Nat → Int32} {N C Q : Nat} (h : RNet c a N C Q) : a 0 = nn N := h.2.2.2.2.1
theorem RNet.cC {c : Sg} {a : Nat → Int32} {N C Q : Nat} (h : RNet c a N C Q) : c 2 6 = nn C := h.2.2.2.2.2.1
theorem RNet.aC {c : Sg} {a : Nat → Int32} {N C Q : Nat} (h : RNet c a N C Q) : a 1 = nn C := h.2.2.2.2.2.2.1
theorem RNet.cQ {c : Sg} {a : Nat → Int32} {N C Q : Nat} (h : RNet c a N C Q) : c 2 0 = nn Q := h.2.2.2.2.2.2.2.1
theorem RNet.aQ {c : Sg} {a : Nat → Int32} {N C Q : Nat} (h : RNet c a N C Q) : a 3 = nn Q := h.2.2.2.2.2.2.2.2.1
theorem RNet.kind {c : Sg} {a : Nat → Int32} {N C Q : Nat} (h : RNet c a N C Q) : ∀ n, n < 10 → a (140 + 5 * n) = c 3 n := h.2.2.2.2.2.2.2.2.2.1
theorem RNet.size {c : Sg} {a : Nat → Int32} {N C Q : Nat} (h : RNet c a N C Q) : ∀ n, n < 10 → a (140 + 5 * n + 1) = c 4 n := h.2.2.2.2.2.2.2.2.2.2.1
theorem RNet.gate {c : Sg} {a : Nat → Int32} {N C Q : Nat} (h : RNet c a N C Q) : ∀ n, n < 10 → a (140 + 5 * n + 2) = c 5 n := h.2.2.2.2.2.2.2.2.2.2.2.1
theorem RNet.kep0 {c : Sg} {a : Nat → Int32} {N C Q : Nat} (h : RNet c a N C Q) : ∀ n, n < 10 → a (140 + 5 * n + 3) = c 7 n := h.2.2.2.2.2.2.2.2.2.2.2.2.1
theorem RNet.kep1 {c : Sg} {a : Nat → Int32} {N C Q : Nat} (h : RNet c a N C Q) : ∀ n, n < 10 → a (140 + 5 * n + 4) = c 8 n := h.2.2.2.2.2.2.2.2.2.2.2.2.2.1
theorem RNet.frm {c : Sg} {a : Nat → Int32} {N C Q : Nat} (h : RNet c a N C Q) : ∀ j, j < 14 → a (190 + 7 * j) = c 9 j := h.2.2.2.2.2.2.2.2.2.2.2.2.2.2.1
theorem RNet.to {c : Sg} {a : Nat → Int32} {N C Q : Nat} (h : RNet c a N C Q) : ∀ j, j < 14 → a (190 + 7 * j + 1) = c 10 j := h.2.2.2.2.2.2.2.2.2.2.2.2.2.2.2.1
theorem RNet.low {c : Sg} {a : Nat → Int32} {N C Q : Nat} (h : RNet c a N C Q) : ∀ j, j < 14 → a (190 + 7 * j + 2) = c 11 j := h.2.2.2.2.2.2.2.2.2.2.2.2.2.2.2.2.1
theorem RNet.hig {c : Sg} {a : Nat → Int32} {N C Q : Nat} (h : RNet c a N C Q) : ∀ j, j < 14 → a (190 + 7 * j + 3) = c 12 j := h.2.2.2.2.2.2.2.2.2.2.2.2.2.2.2.2.2.1
theorem RNet.trv {c : Sg} {a : Nat → Int32} {N C Q : Nat} (h : RNet c a N C Q) : ∀ j, j < 14 → a (190 + 7 * j + 4) = c 13 j := h.2.2.2.2.2.2.2.2.2.2.2.2.2.2.2.2.2.2.1
theorem RNet.brd {c : Sg} {a : Nat → Int32} {N C Q : Nat} (h : RNet c a N C Q) : ∀ j, j < 14 → a (190 + 7 * j + 5) = c 14 j := h.2.2.2.2.2.2.2.2.2.2.2.2.2.2.2.2.2.2.2.1
theorem RNet.brk {c : Sg} {a : Nat → Int32} {N C Q : Nat} (h : RNet c a N C Q) : ∀ j, j < 14 → a (190 + 7 * j + 6) = c 15 j := h.2.2.2.2.2.2.2.2.2.2.2.2.2.2.2.2.2.2.2.2.1
theorem RNet.way0 {c : Sg} {a : Nat → Int32} {N C Q : Nat} (h : RNet c a N C Q) : ∀ i, i < 126 → a (290 + i) = c 17 i := h.2.2.2.2.2.2.2.2.2.2.2.2.2.2.2.2.2.2.2.2.2.1
theorem RNet.way1 {c : Sg} {a : Nat → Int32} {N C Q : Nat} (h : RNet c a N C Q) : ∀ i, i < 126 → a (416 + i) = c 18 i := h.2.2.2.2.2.2.2.2.2.2.2.2.2.2.2.2.2.2.2.2.2.2.1
theorem RNet.gateV {c : Sg} {a : Nat → Int32} {N C Q : Nat} (h : RNet c a N C Q) : ∀ n, n < N → c 5 n = -1 ∨ ∃ k, k < C ∧ c 5 n = nn k ∧ c 9 k = nn n := h.2.2.2.2.2.2.2.2.2.2.2.2.2.2.2.2.2.2.2.2.2.2.2.1
theorem RNet.ends {c : Sg} {a : Nat → Int32} {N C Q : Nat} (h : RNet c a N C Q) : ∀ j, j < C → ∃ f t, f < t ∧ t < N ∧ c 9 j = nn f ∧ c 10 j = nn t := h.2.2.2.2.2.2.2.2.2.2.2.2.2.2.2.2.2.2.2.2.2.2.2.2.1
theorem RNet.lowV {c : Sg} {a : Nat → Int32} {N C Q : Nat} (h : RNet c a N C Q) : ∀ j, j < C → ∃ v, v ≤ 500 ∧ c 11 j = nn v := h.2.2.2.2.2.2.2.2.2.2.2.2.2.2.2.2.2.2.2.2.2.2.2.2.2.1
theorem RNet.higV {c : Sg} {a : Nat → Int32} {N C Q : Nat} (h : RNet c a N C Q) : ∀ j, j < C → ∃ v, v ≤ 500 ∧ c 12 j = nn v := h.2.2.2.2.2.2.2.2.2.2.2.2.2.2.2.2.2.2.2.2.2.2.2.2.2.2.1
theorem RNet.trvV {c : Sg} {a : Nat → Int32} {N C Q : Nat} (h : RNet c a N C Q) : ∀ j, j < C → ∃ v, v ≤ 8 ∧ c 13 j = nn v := h.2.2.2.2.2.2.2.2.2.2.2.2.2.2.2.2.2.2.2.2.2.2.2.2.2.2.2.1
theorem RNet.brdV {c : Sg} {a : Nat → Int32} {N C Q : Nat} (h : RNet c a N C Q) : ∀ j, j < C → ∃ v, 1 ≤ v ∧ v ≤ 9999 ∧ c 14 j = nn v := h.2.2.2.2.2.2.2.2.2.2.2.2.2.2.2.2.2.2.2.2.2.2.2.2.2.2.2.2.1
theorem RNet.brkV {c : Sg} {a : Nat → Int32} {N C Q : Nat} (h : RNet c a N C Q) : ∀ j, j < 14 → c 15 j = 0 ∨ c 15 j = 1 := h.2.2.2.2.2.2.2.2.2.2.2.2.2.2.2.2.2.2.2.2.2.2.2.2.2.2.2.2.2.1
theorem RNet.kindV {c : Sg} {a : Nat → Int32} {N C Q : Nat} (h : RNet c a N C Q) : ∀ n, n < N → ∃ k, k ≤ 4 ∧ c 3 n = nn k := h.2.2.2.2.2.2.2.2.2.2.2.2.2.2.2.2.2.2.2.2.2.2.2.2.2.2.2.2.2.2.1
theorem RNet.kepZ {c : Sg} {a : Nat → Int32} {N C Q : Nat} (h : RNet c a N C Q) : ∀ n, N ≤ n → n < 10 → c 7 n = 0 ∧ c 8 n = 0 := h.2.2.2.2.2.2.2.2.2.2.2.2.2.2.2.2.2.2.2.2.2.2.2.2.2.2.2.2.2.2.2.1
theorem RNet.brkZ {c : Sg} {a : Nat → Int32} {N C Q : Nat} (h : RNet c a N C Q) : ∀ j, C ≤ j → j < 14 → c 15 j = 0 := h.2.2.2.2.2.2.2.2.2.2.2.2.2.2.2.2.2.2.2.2.2.2.2.2.2.2.2.2.2.2.2.2.1
theorem RNet.wayZ {c : Sg} {a : Nat → Int32} {N C Q : Nat} (h : RNet c a N C Q) : ∀ i, 9 * C ≤ i → i < 126 → c 17 i = 0 ∧ c 18 i = 0 := h.2.2.2.2.2.2.2.2.2.2.2.2.2.2.2.2.2.2.2.2.2.2.2.2.2.2.2.2.2.2.2.2.2.1
theorem RNet.su00 {c : Sg} {a : Nat → Int32} {N C Q : Nat} (h : RNet c a N C Q) : a 10 = sumTo (fun n => if c 3 n = 0 then c 7 n else 0) 10 := h.2.2.2.2.2.2.2.2.2.2.2.2.2.2.2.2.2.2.2.2.2.2.2.2.2.2.2.2.2.2.2.2.2.2.1
theorem RNet.su01 {c : Sg} {a : Nat → Int32} {N C Q : Nat} (h : RNet c a N C Q) : a 11 = sumTo (fun n => if c 3 n = 4 then c 7 n else 0) 10 := h.2.2.2.2.2.2.2.2.2.2.2.2.2.2.2.2.2.2.2.2.2.2.2.2.2.2.2.2.2.2.2.2.2.2.2.1
theorem RNet.su02 {c : Sg} {a : Nat → Int32} {N C Q : Nat} (h : RNet c a N C Q) : a 12 = sumTo (fun n => if c 3 n = 2 then c 7 n else 0) 10 := h.2.2.2.2.2.2.2.2.2.2.2.2.2.2.2.2.2.2.2.2.2.2.2.2.2.2.2.2.2.2.2.2.2.2.2.2.1
theorem RNet.su03 {c : Sg} {a : Nat → Int32} {N C Q : Nat} (h : RNet c a N C Q) : a 13 = sumTo (c 17) 126 := h.2.2.2.2.2.2.2.2.2.2.2.2.2.2.2.2.2.2.2.2.2.2.2.2.2.2.2.2.2.2.2.2.2.2.2.2.2.1
theorem RNet.su04 {c : Sg} {a : Nat → Int32} {N C Q : Nat} (h : RNet c a N C Q) : a 14 = c 19 0 := h.2.2.2.2.2.2.2.2.2.2.2.2.2.2.2.2.2.2.2.2.2.2.2.2.2.2.2.2.2.2.2.2.2.2.2.2.2.2.1
theorem RNet.su05 {c : Sg} {a : Nat → Int32} {N C Q : Nat} (h : RNet c a N C Q) : a 15 = c 20 0 := h.2.2.2.2.2.2.2.2.2.2.2.2.2.2.2.2.2.2.2.2.2.2.2.2.2.2.2.2.2.2.2.2.2.2.2.2.2.2.2.1
theorem RNet.su06 {c : Sg} {a : Nat → Int32} {N C Q : Nat} (h : RNet c a N C Q) : a 16 = c 21 0 := h.2.2.2.2.2.2.2.2.2.2.2.2.2.2.2.2.2.2.2.2.2.2.2.2.2.2.2.2.2.2.2.2.2.2.2.2.2.2.2.2.1
theorem RNet.su10 {c : Sg} {a : Nat → Int32} {N C Q : Nat} (h : RNet c a N C Q) : a 17 = sumTo (fun n => if c 3 n = 0 then c 8 n else 0) 10 := h.2.2.2.2.2.2.2.2.2.2.2.2.2.2.2.2.2.2.2.2.2.2.2.2.2.2.2.2.2.2.2.2.2.2.2.2.2.2.2.2.2.1
theorem RNet.su11 {c : Sg} {a : Nat → Int32} {N C Q : Nat} (h : RNet c a N C Q) : a 18 = sumTo (fun n => if c 3 n = 4 then c 8 n else 0) 10 := h.2.2.2.2.2.2.2.2.2.2.2.2.2.2.2.2.2.2.2.2.2.2.2.2.2.2.2.2.2.2.2.2.2.2.2.2.2.2.2.2.2.2.1
theorem RNet.su12 {c : Sg} {a : Nat → Int32} {N C Q : Nat} (h : RNet c a N C Q) : a 19 = sumTo (fun n => if c 3 n = 2 then c 8 n else 0) 10 := h.2.2.2.2.2.2.2.2.2.2.2.2.2.2.2.2.2.2.2.2.2.2.2.2.2.2.2.2.2.2.2.2.2.2.2.2.2.2.2.2.2.2.2.1
theorem RNet.su13 {c : Sg} {a : Nat → Int32} {N C Q : Nat} (h : RNet c a N C Q) : a 20 = sumTo (c 18) 126 := h.2.2.2.2.2.2.2.2.2.2.2.2.2.2.2.2.2.2.2.2.2.2.2.2.2.2.2.2.2.2.2.2.2.2.2.2.2.2.2.2.2.2.2.2.1
theorem RNet.su14 {c : Sg} {a : Nat → Int32} {N C Q : Nat} (h : RNet c a N C Q) : a 21 = c 19 1 := h.2.2.2.2.2.2.2.2.2.2.2.2.2.2.2.2.2.2.2.2.2.2.2.2.2.2.2.2.2.2.2.2.2.2.2.2.2.2.2.2.2.2.2.2.2.1
theorem RNet.su15 {c : Sg} {a : Nat → Int32} {N C Q : Nat} (h : RNet c a N C Q) : a 22 = c 20 1 := h.2.2.2.2.2.2.2.2.2.2.2.2.2.2.2.2.2.2.2.2.2.2.2.2.2.2.2.2.2.2.2.2.2.2.2.2.2.2.2.2.2.2.2.2.2.2.1
theorem RNet.su16 {c : Sg} {a : Nat → Int32} {N C Q : Nat} (h : RNet c a N C Q) : a 23 = c 21 1 := h.2.2.2.2.2.2.2.2.2.2.2.2.2.2.2.2.2.2.2.2.2.2.2.2.2.2.2.2.2.2.2.2.2.2.2.2.2.2.2.2.2.2.2.2.2.2.2
theorem RNet.mk {c : Sg} {a : Nat → Int32} {N C Q : Nat} (hN : N ≤ 10) (hC : C ≤ 14) (hQ : Q ≤ 9599) (cN : c 2 1 = nn N) (aN : a 0 = nn N) (cC : c 2 6 = nn C) (aC : a 1 = nn C) (cQ : c 2 0 = nn Q) (aQ : a 3 = nn Q) (kind : ∀ n, n < 10 → a (140 + 5 * n) = c 3 n) (size : ∀ n, n < 10 → a (140 + 5 * n + 1) = c 4 n) (gate : ∀ n, n < 10 → a (140 + 5 * n + 2) = c 5 n) (kep0 : ∀ n, n < 10 → a (140 + 5 * n + 3) = c 7 n) (kep1 : ∀ n, n < 10 → a (140 + 5 * n + 4) = c 8 n) (frm : ∀ j, j < 14 → a (190 + 7 * j) = c 9 j) (to : ∀ j, j < 14 → a (190 + 7 * j + 1) = c 10 j) (low : ∀ j, j < 14 → a (190 + 7 * j + 2) = c 11 j) (hig : ∀ j, j < 14 → a (190 + 7 * j + 3) = c 12 j) (trv : ∀ j, j < 14 → a (190 + 7 * j + 4) = c 13 j) (brd : ∀ j, j < 14 → a (190 + 7 * j + 5) = c 14 j) (brk : ∀ j, j < 14 → a (190 + 7 * j + 6) = c 15 j) (way0 : ∀ i, i < 126 → a (290 + i) = c 17 i) (way1 : ∀ i, i < 126 → a (416 + i) = c 18 i) (gateV : ∀ n, n < N → c 5 n = -1 ∨ ∃ k, k < C ∧ c 5 n = nn k ∧ c 9 k = nn n) (ends : ∀ j, j < C → ∃ f t, f < t ∧ t < N ∧ c 9 j = nn f ∧ c 10 j = nn t) (lowV : ∀ j, j < C → ∃ v, v ≤ 500 ∧ c 11 j = nn v) (higV : ∀ j, j < C → ∃ v, v ≤ 500 ∧ c 12 j = nn v) (trvV : ∀ j, j < C → ∃ v, v ≤ 8 ∧ c 13 j = nn v) (brdV : ∀ j, j < C → ∃ v, 1 ≤ v ∧ v ≤ 9999 ∧ c 14 j = nn v) (brkV : ∀ j, j < 14 → c 15 j = 0 ∨ c 15 j = 1) (kindV : ∀ n, n < N → ∃ k, k ≤ 4 ∧ c 3 n = nn k) (kepZ : ∀ n, N ≤ n → n < 10 → c 7 n = 0 ∧ c 8 n = 0) (brkZ : ∀ j, C ≤ j → j < 14 → c 15 j = 0) (wayZ : ∀ i, 9 * C ≤ i → i < 126 → c 17 i = 0 ∧ c 18 i = 0) (su00 : a 10 = sumTo (fun n => if c 3 n = 0 then c 7 n else 0) 10) (su01 : a 11 = sumTo (fun n => if c 3 n = 4 then c 7 n else 0) 10) (su02 : a 12 = sumTo (fun n => if c 3 n = 2 then c 7 n else 0) 10) (su03 : a 13 = sumTo (c 17) 126) (su04 : a 14 = c 19 0) (su05 : a 15 = c 20 0) (su06 : a 16 = c 21 0) (su10 : a 17 = sumTo (fun n => if c 3 n = 0 then c 8 n else 0) 10) (su11 : a 18 = sumTo (fun n => if c 3 n = 4 then c 8 n else 0) 10) (su12 : a 19 = sumTo (fun n => if c 3 n = 2 then c 8 n else 0) 10) (su13 : a 20 = sumTo (c 18) 126) (su14 : a 21 = c 19 1) (su15 : a 22 = c 20 1) (su16 : a 23 = c 21 1) : RNet c a N C Q := ⟨hN, hC, hQ, cN, aN, cC, aC, cQ, aQ, kind, size, gate, kep0, kep1, frm, to, low, hig, trv, brd, brk, way0, way1, gateV, ends, lowV, higV, trvV, brdV, brkV, kindV, kepZ, brkZ, wayZ, su00, su01, su02, su03, su04, su05, su06, su10, su11, su12, su13, su14, su15, su16⟩
def iNet (j : Nat) : Prop := j = 0 ∨ j = 1 ∨ j = 3 ∨ (10 ≤ j ∧ j < 24) ∨ (140 ≤ j ∧ j < 542)
theorem RNet.fr {c c' : Sg} {a a' : Nat → Int32} {N C Q : Nat} (h : RNet c a N C Q) (hc : ∀ i, 2 ≤ i → i ≤ 21 → c' i = c i) (ha : ∀ j, iNet j → a' j = a j) : RNet c' a' N C Q := by
  have e2 := hc 2 (by decide) (by decide)
  have e3 := hc 3 (by decide) (by decide)
  have e4 := hc 4 (by decide) (by decide)
  have e5 := hc 5 (by decide) (by decide)
  have e7 := hc 7 (by decide) (by decide)
  have e8 := hc 8 (by decide) (by decide)
  have e9 := hc 9 (by decide) (by decide)
  have e10 := hc 10 (by decide) (by decide)
  have e11 := hc 11 (by decide) (by decide)
  have e12 := hc 12 (by decide) (by decide)
  have e13 := hc 13 (by decide) (by decide)
  have e14 := hc 14 (by decide) (by decide)
  have e15 := hc 15 (by decide) (by decide)
  have e17 := hc 17 (by decide) (by decide)
  have e18 := hc 18 (by decide) (by decide)
  have e19 := hc 19 (by decide) (by decide)
  have e20 := hc 20 (by decide) (by decide)
  have e21 := hc 21 (by decide) (by decide)
  have A : ∀ j, iNet j → a' j = a j := ha
  apply RNet.mk
  case hN => exact h.hN
  case hC => exact h.hC
  case hQ => exact h.hQ
  case cN => rw [e2]; exact h.cN
  case cC => rw [e2]; exact h.cC
  case cQ => rw [e2]; exact h.cQ
  case gateV => rw [e5, e9]; exact h.gateV
  case ends => rw [e9, e10]; exact h.ends
  case lowV => rw [e11]; exact h.lowV
  case higV => rw [e12]; exact h.higV
  case trvV => rw [e13]; exact h.trvV
  case brdV => rw [e14]; exact h.brdV
  case brkV => rw [e15]; exact h.brkV
  case kindV => rw [e3]; exact h.kindV
  case kepZ => rw [e7, e8]; exact h.kepZ
  case brkZ => rw [e15]; exact h.brkZ
  case wayZ => rw [e17, e18]; exact h.wayZ
  case aN => rw [A 0 (by unfold iNet; omega)]; exact h.aN
  case aC => rw [A 1 (by unfold iNet; omega)]; exact h.aC
  case aQ => rw [A 3 (by unfold iNet; omega)]; exact h.aQ
  case kind => intro n hn; rw [A _ (by unfold iNet; omega), e3]; exact h.kind n hn
  case size => intro n hn; rw [A _ (by unfold iNet; omega), e4]; exact h.size n hn
  case gate => intro n hn; rw [A _ (by unfold iNet; omega), e5]; exact h.gate n hn
  case kep0 => intro n hn; rw [A _ (by unfold iNet; omega), e7]; exact h.kep0 n hn
  case kep1 => intro n hn; rw [A _ (by unfold iNet; omega), e8]; exact h.kep1 n hn
  case frm => intro n hn; rw [A _ (by unfold iNet; omega), e9]; exact h.frm n hn
  case to => intro n hn; rw [A _ (by unfold iNet; omega), e10]; exact h.to n hn
  case low => intro n hn; rw [A _ (by unfold iNet; omega), e11]; exact h.low n hn
  case hig => intro n hn; rw [A _ (by unfold iNet; omega), e12]; exact h.hig n hn
  case trv => intro n hn; rw [A _ (by unfold iNet; omega), e13]; exact h.trv n hn
  case brd => intro n hn; rw [A _ (by unfold iNet; omega), e14]; exact h.brd n hn
  case brk => intro n hn; rw [A _ (by unfold iNet; omega), e15]; exact h.brk n hn
  case way0 => intro n hn; rw [A _ (by unfold iNet; omega), e17]; exact h.way0 n hn
  case way1 => intro n hn; rw [A _ (by unfold iNet; omega), e18]; exact h.way1 n hn
  case su00 => rw [A _ (by unfold iNet; omega), e3, e7]; exact h.su00
  case su01 => rw [A _ (by unfold iNet; omega), e3, e7]; exact h.su01
  case su02 => rw [A _ (by unfold iNet; omega), e3, e7]; exact h.su02
  case su03 => rw [A _ (by unfold iNet; omega), e17]; exact h.su03
  case su04 => rw [A _ (by unfold iNet; omega), e19]; exact h.su04
  case su05 => rw [A _ (by unfold iNet; omega), e20]; exact h.su05
  case su06 => rw [A _ (by unfold iNet; omega), e21]; exact h.su06
  case su10 => rw [A _ (by unfold iNet; omega), e3, e8]; exact h.su10
  case su11 => rw [A _ (by unfold iNet; omega), e3, e8]; exact h.su11
  case su12 => rw [A _ (by unfold iNet; omega), e3, e8]; exact h.su12
  case su13 => rw [A _ (by unfold iNet; omega), e18]; exact h.su13
  case su14 => rw [A _ (by unfold iNet; omega), e19]; exact h.su14
  case su15 => rw [A _ (by unfold iNet; omega), e20]; exact h.su15
  case su16 => rw [A _ (by unfold iNet; omega), e21]; exact h.su16
def RRig (c : Sg) (a : Nat → Int32) (D N Q : Nat) : Prop :=
  (D ≤ 120) ∧
  (c 22 1 = nn D) ∧
  (a 2 = nn D) ∧
  (∀ h, h < 8 → a (30 + h) = c 23 h) ∧
  (∀ h, h < 8 → c 23 h = -1 ∨ ∃ n, n < N ∧ c 23 h = nn n) ∧
  (∀ d, d < 120 → a (550 + 6 * d) = c 24 d) ∧
  (∀ d, d < 120 → a (550 + 6 * d + 1) = c 25 d) ∧
  (∀ d, d < 120 → a (550 + 6 * d + 2) = c 26 d) ∧
  (∀ d, d < 120 → a (550 + 6 * d + 3) = c 27 d) ∧
  (∀ d, d < 120 → a (550 + 6 * d + 4) = c 28 d) ∧
  (∀ d, d < 120 → a (550 + 6 * d + 5) = c 29 d) ∧
  (∀ d, d < D → ∃ f l, f ≤ l ∧ l < 168 ∧ c 24 d = nn f ∧ c 25 d = nn l) ∧
  (∀ d, d < D → ∃ w, w < 8 ∧ c 26 d = nn w) ∧
  (∀ d, d < D → ∃ s, s < 100 ∧ c 27 d = nn s) ∧
  (∀ d, d < D → ∃ y, y ≤ Q / 96 ∧ c 28 d = nn y) ∧
  (∀ d, d < D → c 29 d = -1 ∨ ∃ z, z ≤ Q / 96 ∧ c 29 d = nn z) ∧
  (c 22 8 = nn ((Q + 3) / 4)) ∧
  (a 6 = nn ((Q + 3) / 4)) ∧
  (∀ i, i < 2400 → a (1870 + i) = c 30 i) ∧
  (∀ i, i < 2400 → c 30 i = -1 ∨ ∃ h, h < 8 ∧ c 30 i = nn h)
theorem RRig.hD {c : Sg} {a : Nat → Int32} {D N Q : Nat} (h : RRig c a D N Q) : D ≤ 120 := h.1
theorem RRig.cD {c : Sg} {a : Nat → Int32} {D N Q : Nat} (h : RRig c a D N Q) : c 22 1 = nn D := h.2.1
theorem RRig.aD {c : Sg} {a : Nat → Int32} {D N Q : Nat} (h : RRig c a D N Q) : a 2 = nn D := h.2.2.1
theorem RRig.home {c : Sg} {a : Nat → Int32} {D N Q : Nat} (h : RRig c a D N Q) : ∀ h, h < 8 → a (30 + h) = c 23 h := h.2.2.2.1
theorem RRig.homeV {c : Sg} {a : Nat → Int32} {D N Q : Nat} (h : RRig c a D N Q) : ∀ h, h < 8 → c 23 h = -1 ∨ ∃ n, n < N ∧ c 23 h = nn n := h.2.2.2.2.1
theorem RRig.d0 {c : Sg} {a : Nat → Int32} {D N Q : Nat} (h : RRig c a D N Q) : ∀ d, d < 120 → a (550 + 6 * d) = c 24 d := h.2.2.2.2.2.1
theorem RRig.d1 {c : Sg} {a : Nat → Int32} {D N Q : Nat} (h : RRig c a D N Q) : ∀ d, d < 120 → a (550 + 6 * d + 1) = c 25 d := h.2.2.2.2.2.2.1
theorem RRig.d2 {c : Sg} {a : Nat → Int32} {D N Q : Nat} (h : RRig c a D N Q) : ∀ d, d < 120 → a (550 + 6 * d + 2) = c 26 d := h.2.2.2.2.2.2.2.1
theorem RRig.d3 {c : Sg} {a : Nat → Int32} {D N Q : Nat} (h : RRig c a D N Q) : ∀ d, d < 120 → a (550 + 6 * d + 3) = c 27 d := h.2.2.2.2.2.2.2.2.1
theorem RRig.d4 {c : Sg} {a : Nat → Int32} {D N Q : Nat} (h : RRig c a D N Q) : ∀ d, d < 120 → a (550 + 6 * d + 4) = c 28 d := h.2.2.2.2.2.2.2.2.2.1
theorem RRig.d5 {c : Sg} {a : Nat → Int32} {D N Q : Nat} (h : RRig c a D N Q) : ∀ d, d < 120 → a (550 + 6 * d + 5) = c 29 d := h.2.2.2.2.2.2.2.2.2.2.1
theorem RRig.dFL {c : Sg} {a : Nat → Int32} {D N Q : Nat} (h : RRig c a D N Q) : ∀ d, d < D → ∃ f l, f ≤ l ∧ l < 168 ∧ c 24 d = nn f ∧ c 25 d = nn l := h.2.2.2.2.2.2.2.2.2.2.2.1
theorem RRig.dW {c : Sg} {a : Nat → Int32} {D N Q : Nat} (h : RRig c a D N Q) : ∀ d, d < D → ∃ w, w < 8 ∧ c 26 d = nn w := h.2.2.2.2.2.2.2.2.2.2.2.2.1
theorem RRig.dS {c : Sg} {a : Nat → Int32} {D N Q : Nat} (h : RRig c a D N Q) : ∀ d, d < D → ∃ s, s < 100 ∧ c 27 d = nn s := h.2.2.2.2.2.2.2.2.2.2.2.2.2.1
theorem RRig.dY {c : Sg} {a : Nat → Int32} {D N Q : Nat} (h : RRig c a D N Q) : ∀ d, d < D → ∃ y, y ≤ Q / 96 ∧ c 28 d = nn y := h.2.2.2.2.2.2.2.2.2.2.2.2.2.2.1
theorem RRig.dV {c : Sg} {a : Nat → Int32} {D N Q : Nat} (h : RRig c a D N Q) : ∀ d, d < D → c 29 d = -1 ∨ ∃ z, z ≤ Q / 96 ∧ c 29 d = nn z := h.2.2.2.2.2.2.2.2.2.2.2.2.2.2.2.1
theorem RRig.cR {c : Sg} {a : Nat → Int32} {D N Q : Nat} (h : RRig c a D N Q) : c 22 8 = nn ((Q + 3) / 4) := h.2.2.2.2.2.2.2.2.2.2.2.2.2.2.2.2.1
theorem RRig.aR {c : Sg} {a : Nat → Int32} {D N Q : Nat} (h : RRig c a D N Q) : a 6 = nn ((Q + 3) / 4) := h.2.2.2.2.2.2.2.2.2.2.2.2.2.2.2.2.2.1
theorem RRig.runs {c : Sg} {a : Nat → Int32} {D N Q : Nat} (h : RRig c a D N Q) : ∀ i, i < 2400 → a (1870 + i) = c 30 i := h.2.2.2.2.2.2.2.2.2.2.2.2.2.2.2.2.2.2.1
theorem RRig.runV {c : Sg} {a : Nat → Int32} {D N Q : Nat} (h : RRig c a D N Q) : ∀ i, i < 2400 → c 30 i = -1 ∨ ∃ h, h < 8 ∧ c 30 i = nn h := h.2.2.2.2.2.2.2.2.2.2.2.2.2.2.2.2.2.2.2
theorem RRig.mk {c : Sg} {a : Nat → Int32} {D N Q : Nat} (hD : D ≤ 120) (cD : c 22 1 = nn D) (aD : a 2 = nn D) (home : ∀ h, h < 8 → a (30 + h) = c 23 h) (homeV : ∀ h, h < 8 → c 23 h = -1 ∨ ∃ n, n < N ∧ c 23 h = nn n) (d0 : ∀ d, d < 120 → a (550 + 6 * d) = c 24 d) (d1 : ∀ d, d < 120 → a (550 + 6 * d + 1) = c 25 d) (d2 : ∀ d, d < 120 → a (550 + 6 * d + 2) = c 26 d) (d3 : ∀ d, d < 120 → a (550 + 6 * d + 3) = c 27 d) (d4 : ∀ d, d < 120 → a (550 + 6 * d + 4) = c 28 d) (d5 : ∀ d, d < 120 → a (550 + 6 * d + 5) = c 29 d) (dFL : ∀ d, d < D → ∃ f l, f ≤ l ∧ l < 168 ∧ c 24 d = nn f ∧ c 25 d = nn l) (dW : ∀ d, d < D → ∃ w, w < 8 ∧ c 26 d = nn w) (dS : ∀ d, d < D → ∃ s, s < 100 ∧ c 27 d = nn s) (dY : ∀ d, d < D → ∃ y, y ≤ Q / 96 ∧ c 28 d = nn y) (dV : ∀ d, d < D → c 29 d = -1 ∨ ∃ z, z ≤ Q / 96 ∧ c 29 d = nn z) (cR : c 22 8 = nn ((Q + 3) / 4)) (aR : a 6 = nn ((Q + 3) / 4)) (runs : ∀ i, i < 2400 → a (1870 + i) = c 30 i) (runV : ∀ i, i < 2400 → c 30 i = -1 ∨ ∃ h, h < 8 ∧ c 30 i = nn h) : RRig c a D N Q := ⟨hD, cD, aD, home, homeV, d0, d1, d2, d3, d4, d5, dFL, dW, dS, dY, dV, cR, aR, runs, runV⟩
def iRig (j : Nat) : Prop := j = 2 ∨ j = 6 ∨ (30 ≤ j ∧ j < 38) ∨ (550 ≤ j ∧ j < 1270) ∨ (1870 ≤ j ∧ j < 4270)
theorem RRig.fr {c c' : Sg} {a a' : Nat → Int32} {D N Q : Nat} (h : RRig c a D N Q) (hc : ∀ i, 22 ≤ i → i ≤ 30 → c' i = c i) (ha : ∀ j, iRig j → a' j = a j) : RRig c' a' D N Q := by
  have e22 := hc 22 (by decide) (by decide)
  have e23 := hc 23 (by decide) (by decide)
  have e24 := hc 24 (by decide) (by decide)
  have e25 := hc 25 (by decide) (by decide)
  have e26 := hc 26 (by decide) (by decide)
  have e27 := hc 27 (by decide) (by decide)
  have e28 := hc 28 (by decide) (by decide)
  have e29 := hc 29 (by decide) (by decide)
  have e30 := hc 30 (by decide) (by decide)
  have A : ∀ j, iRig j → a' j = a j := ha
  apply RRig.mk
  case hD => exact h.hD
  case cD => rw [e22]; exact h.cD
  case aD => rw [A _ (by unfold iRig; omega)]; exact h.aD
  case home => intro n hn; rw [A _ (by unfold iRig; omega), e23]; exact h.home n hn
  case homeV => rw [e23]; exact h.homeV
  case d0 => intro n hn; rw [A _ (by unfold iRig; omega), e24]; exact h.d0 n hn
  case d1 => intro n hn; rw [A _ (by unfold iRig; omega), e25]; exact h.d1 n hn
  case d2 => intro n hn; rw [A _ (by unfold iRig; omega), e26]; exact h.d2 n hn
  case d3 => intro n hn; rw [A _ (by unfold iRig; omega), e27]; exact h.d3 n hn
  case d4 => intro n hn; rw [A _ (by unfold iRig; omega), e28]; exact h.d4 n hn
  case d5 => intro n hn; rw [A _ (by unfold iRig; omega), e29]; exact h.d5 n hn
  case dFL => rw [e24, e25]; exact h.dFL
  case dW => rw [e26]; exact h.dW
  case dS => rw [e27]; exact h.dS
  case dY => rw [e28]; exact h.dY
  case dV => rw [e29]; exact h.dV
  case cR => rw [e22]; exact h.cR
  case aR => rw [A _ (by unfold iRig; omega)]; exact h.aR
  case runs => intro n hn; rw [A _ (by unfold iRig; omega), e30]; exact h.runs n hn
  case runV => rw [e30]; exact h.runV
/-- a test of the statute: the class's and the model's -/
def tSign (x y : Int32) : Prop := (x = 15 ∧ y = 60) ∨ (x = 16 ∧ y = 62) ∨ (x = 17 ∧ y = 61)
def tAct (x y : Int32) : Prop := (x = 4 ∧ y = 20) ∨ (x = 5 ∧ y = 21) ∨ (x = 6 ∧ y = 22)
def tTest (n f s l : Int32) (a : Nat → Int32) (i : Nat) : Prop := (n = 0 ∨ n = 1) ∧ a i = n ∧ (∃ w, 1 ≤ w ∧ w ≤ 6 ∧ f = nn (6 + w) ∧ a (i + 1) = nn w) ∧ tSign s (a (i + 2)) ∧ a (i + 3) = l
def tLine (ac nu te : Nat → Int32) (no fa si li : Nat → Int32) (k : Nat) (a : Nat → Int32) (i : Nat) : Prop :=
  (∃ n, n ≤ 4 ∧ te k = nn n ∧ a i = nn n ∧ ∀ t, t < n → tTest (no (4 * k + t)) (fa (4 * k + t)) (si (4 * k + t)) (li (4 * k + t)) a (i + 1 + 4 * t)) ∧ tAct (ac k) (a (i + 17)) ∧ a (i + 18) = nu k ∧ ∃ v, v ≤ 9999 ∧ nu k = nn v
def RLaw (c : Sg) (a : Nat → Int32) (T L : Nat) : Prop :=
  (T ≤ 500) ∧
  (L ≤ 16) ∧
  (c 31 0 = nn T) ∧
  (a 7 = nn T) ∧
  (∀ i, i < 500 → a (4590 + i) = c 32 i &&& 255) ∧
  (∀ i, i < 500 → ∃ b : Int8, c 32 i = b.toInt32) ∧
  (a 8 = c 31 2) ∧
  (a 9 = c 31 3) ∧
  (∀ w, w < 100 → a (40 + w) = c 41 w) ∧
  (∀ w, w < 100 → c 41 w = 0 ∨ c 41 w = 1) ∧
  (c 33 0 = nn L) ∧
  (a 4 = nn L) ∧
  (∀ k, k < L → tLine (c 34) (c 35) (c 36) (c 37) (c 38) (c 39) (c 40) k a (4270 + 20 * k))
theorem RLaw.hT {c : Sg} {a : Nat → Int32} {T L : Nat} (h : RLaw c a T L) : T ≤ 500 := h.1
theorem RLaw.hL {c : Sg} {a : Nat → Int32} {T L : Nat} (h : RLaw c a T L) : L ≤ 16 := h.2.1
theorem RLaw.cT {c : Sg} {a : Nat → Int32} {T L : Nat} (h : RLaw c a T L) : c 31 0 = nn T := h.2.2.1
theorem RLaw.aT {c : Sg} {a : Nat → Int32} {T L : Nat} (h : RLaw c a T L) : a 7 = nn T := h.2.2.2.1
theorem RLaw.tape {c : Sg} {a : Nat → Int32} {T L : Nat} (h : RLaw c a T L) : ∀ i, i < 500 → a (4590 + i) = c 32 i &&& 255 := h.2.2.2.2.1
theorem RLaw.tapeV {c : Sg} {a : Nat → Int32} {T L : Nat} (h : RLaw c a T L) : ∀ i, i < 500 → ∃ b : Int8, c 32 i = b.toInt32 := h.2.2.2.2.2.1
theorem RLaw.fk {c : Sg} {a : Nat → Int32} {T L : Nat} (h : RLaw c a T L) : a 8 = c 31 2 := h.2.2.2.2.2.2.1
theorem RLaw.fp {c : Sg} {a : Nat → Int32} {T L : Nat} (h : RLaw c a T L) : a 9 = c 31 3 := h.2.2.2.2.2.2.2.1
theorem RLaw.dry {c : Sg} {a : Nat → Int32} {T L : Nat} (h : RLaw c a T L) : ∀ w, w < 100 → a (40 + w) = c 41 w := h.2.2.2.2.2.2.2.2.1
theorem RLaw.dryV {c : Sg} {a : Nat → Int32} {T L : Nat} (h : RLaw c a T L) : ∀ w, w < 100 → c 41 w = 0 ∨ c 41 w = 1 := h.2.2.2.2.2.2.2.2.2.1
theorem RLaw.cL {c : Sg} {a : Nat → Int32} {T L : Nat} (h : RLaw c a T L) : c 33 0 = nn L := h.2.2.2.2.2.2.2.2.2.2.1
theorem RLaw.aL {c : Sg} {a : Nat → Int32} {T L : Nat} (h : RLaw c a T L) : a 4 = nn L := h.2.2.2.2.2.2.2.2.2.2.2.1
theorem RLaw.ln {c : Sg} {a : Nat → Int32} {T L : Nat} (h : RLaw c a T L) : ∀ k, k < L → tLine (c 34) (c 35) (c 36) (c 37) (c 38) (c 39) (c 40) k a (4270 + 20 * k) := h.2.2.2.2.2.2.2.2.2.2.2.2
theorem RLaw.mk {c : Sg} {a : Nat → Int32} {T L : Nat} (hT : T ≤ 500) (hL : L ≤ 16) (cT : c 31 0 = nn T) (aT : a 7 = nn T) (tape : ∀ i, i < 500 → a (4590 + i) = c 32 i &&& 255) (tapeV : ∀ i, i < 500 → ∃ b : Int8, c 32 i = b.toInt32) (fk : a 8 = c 31 2) (fp : a 9 = c 31 3) (dry : ∀ w, w < 100 → a (40 + w) = c 41 w) (dryV : ∀ w, w < 100 → c 41 w = 0 ∨ c 41 w = 1) (cL : c 33 0 = nn L) (aL : a 4 = nn L) (ln : ∀ k, k < L → tLine (c 34) (c 35) (c 36) (c 37) (c 38) (c 39) (c 40) k a (4270 + 20 * k)) : RLaw c a T L := ⟨hT, hL, cT, aT, tape, tapeV, fk, fp, dry, dryV, cL, aL, ln⟩
def iLaw (j : Nat) : Prop := j = 4 ∨ j = 7 ∨ j = 8 ∨ j = 9 ∨ (40 ≤ j ∧ j < 140) ∨ (4270 ≤ j ∧ j < 5090)
theorem tLine_fr {ac nu te no fa si li : Nat → Int32} {k i i' : Nat} {a a' : Nat → Int32} (ha : ∀ j, j < 19 → a' (i' + j) = a (i + j)) (h : tLine ac nu te no fa si li k a i) : tLine ac nu te no fa si li k a' i' := by
  obtain ⟨⟨n, h1, h2, h3, h4⟩, h5, h6, h7⟩ := h
  refine ⟨⟨n, h1, h2, (ha 0 (by decide)).trans h3, fun t ht => ?_⟩, ?_, ?_, h7⟩
  · obtain ⟨g1, g2, g3, g4, g5⟩ := h4 t ht
    have e0 : a' (i' + 1 + 4 * t) = a (i + 1 + 4 * t) := by have := ha (1 + 4 * t) (by omega); rwa [← Nat.add_assoc, ← Nat.add_assoc] at this
    have e1 : a' (i' + 1 + 4 * t + 1) = a (i + 1 + 4 * t + 1) := by have := ha (1 + 4 * t + 1) (by omega); rwa [show i' + (1 + 4 * t + 1) = i' + 1 + 4 * t + 1 by omega, show i + (1 + 4 * t + 1) = i + 1 + 4 * t + 1 by omega] at this
    have e2 : a' (i' + 1 + 4 * t + 2) = a (i + 1 + 4 * t + 2) := by have := ha (1 + 4 * t + 2) (by omega); rwa [show i' + (1 + 4 * t + 2) = i' + 1 + 4 * t + 2 by omega, show i + (1 + 4 * t + 2) = i + 1 + 4 * t + 2 by omega] at this
    have e3 : a' (i' + 1 + 4 * t + 3) = a (i + 1 + 4 * t + 3) := by have := ha (1 + 4 * t + 3) (by omega); rwa [show i' + (1 + 4 * t + 3) = i' + 1 + 4 * t + 3 by omega, show i + (1 + 4 * t + 3) = i + 1 + 4 * t + 3 by omega] at this
    exact ⟨g1, e0.trans g2, by rw [e1]; exact g3, by rw [e2]; exact g4, e3.trans g5⟩
  · rw [ha 17 (by decide)]; exact h5
  · rw [ha 18 (by decide)]; exact h6
theorem RLaw.fr {c c' : Sg} {a a' : Nat → Int32} {T L : Nat} (h : RLaw c a T L) (hc : ∀ i, 31 ≤ i → i ≤ 41 → c' i = c i) (ha : ∀ j, iLaw j → a' j = a j) : RLaw c' a' T L := by
  have e31 := hc 31 (by decide) (by decide)
  have e32 := hc 32 (by decide) (by decide)
  have e33 := hc 33 (by decide) (by decide)
  have e34 := hc 34 (by decide) (by decide)
  have e35 := hc 35 (by decide) (by decide)
  have e36 := hc 36 (by decide) (by decide)
  have e37 := hc 37 (by decide) (by decide)
  have e38 := hc 38 (by decide) (by decide)
  have e39 := hc 39 (by decide) (by decide)
  have e40 := hc 40 (by decide) (by decide)
  have e41 := hc 41 (by decide) (by decide)
  have A : ∀ j, iLaw j → a' j = a j := ha
  apply RLaw.mk
  case hT => exact h.hT
  case hL => exact h.hL
  case cT => rw [e31]; exact h.cT
  case aT => rw [A _ (by unfold iLaw; omega)]; exact h.aT
  case tape => intro n hn; rw [A _ (by unfold iLaw; omega), e32]; exact h.tape n hn
  case tapeV => rw [e32]; exact h.tapeV
  case fk => rw [A _ (by unfold iLaw; omega), e31]; exact h.fk
  case fp => rw [A _ (by unfold iLaw; omega), e31]; exact h.fp
  case dry => intro n hn; rw [A _ (by unfold iLaw; omega), e41]; exact h.dry n hn
  case dryV => rw [e41]; exact h.dryV
  case cL => rw [e33]; exact h.cL
  case aL => rw [A _ (by unfold iLaw; omega)]; exact h.aL
  case ln =>
    intro k hk
    have := h.hL
    rw [e34, e35, e36, e37, e38, e39, e40]
    exact tLine_fr (fun j hj => A _ (by unfold iLaw; omega)) (h.ln k hk)
def RGau (c : Sg) (a : Nat → Int32) (G C Q : Nat) : Prop :=
  (G ≤ 150) ∧
  (c 42 0 = nn G) ∧
  (a 5 = nn G) ∧
  (∀ r, r < 150 → a (1270 + 4 * r) = c 43 r) ∧
  (∀ r, r < 150 → a (1270 + 4 * r + 1) = c 44 r) ∧
  (∀ r, r < 150 → a (1270 + 4 * r + 2) = c 45 r) ∧
  (∀ r, r < 150 → a (1270 + 4 * r + 3) = c 46 r) ∧
  (∀ r, r < G → ∃ k, k < C ∧ c 43 r = nn k) ∧
  (∀ r, r < G → ∃ q, q ≤ Q ∧ c 44 r = nn q) ∧
  (∀ r, r < G → ∃ v, v ≤ 9999 ∧ c 45 r = nn v) ∧
  (∀ r, r < G → ∃ v, v ≤ 9999 ∧ c 46 r = nn v)
theorem RGau.hG {c : Sg} {a : Nat → Int32} {G C Q : Nat} (h : RGau c a G C Q) : G ≤ 150 := h.1
theorem RGau.cG {c : Sg} {a : Nat → Int32} {G C Q : Nat} (h : RGau c a G C Q) : c 42 0 = nn G := h.2.1
theorem RGau.aG {c : Sg} {a : Nat → Int32} {G C Q : Nat} (h : RGau c a G C Q) : a 5 = nn G := h.2.2.1
theorem RGau.g0 {c : Sg} {a : Nat → Int32} {G C Q : Nat} (h : RGau c a G C Q) : ∀ r, r < 150 → a (1270 + 4 * r) = c 43 r := h.2.2.2.1
theorem RGau.g1 {c : Sg} {a : Nat → Int32} {G C Q : Nat} (h : RGau c a G C Q) : ∀ r, r < 150 → a (1270 + 4 * r + 1) = c 44 r := h.2.2.2.2.1
theorem RGau.g2 {c : Sg} {a : Nat → Int32} {G C Q : Nat} (h : RGau c a G C Q) : ∀ r, r < 150 → a (1270 + 4 * r + 2) = c 45 r := h.2.2.2.2.2.1
theorem RGau.g3 {c : Sg} {a : Nat → Int32} {G C Q : Nat} (h : RGau c a G C Q) : ∀ r, r < 150 → a (1270 + 4 * r + 3) = c 46 r := h.2.2.2.2.2.2.1
theorem RGau.gC {c : Sg} {a : Nat → Int32} {G C Q : Nat} (h : RGau c a G C Q) : ∀ r, r < G → ∃ k, k < C ∧ c 43 r = nn k := h.2.2.2.2.2.2.2.1
theorem RGau.gQ {c : Sg} {a : Nat → Int32} {G C Q : Nat} (h : RGau c a G C Q) : ∀ r, r < G → ∃ q, q ≤ Q ∧ c 44 r = nn q := h.2.2.2.2.2.2.2.2.1
theorem RGau.gI {c : Sg} {a : Nat → Int32} {G C Q : Nat} (h : RGau c a G C Q) : ∀ r, r < G → ∃ v, v ≤ 9999 ∧ c 45 r = nn v := h.2.2.2.2.2.2.2.2.2.1
theorem RGau.gO {c : Sg} {a : Nat → Int32} {G C Q : Nat} (h : RGau c a G C Q) : ∀ r, r < G → ∃ v, v ≤ 9999 ∧ c 46 r = nn v := h.2.2.2.2.2.2.2.2.2.2
theorem RGau.mk {c : Sg} {a : Nat → Int32} {G C Q : Nat} (hG : G ≤ 150) (cG : c 42 0 = nn G) (aG : a 5 = nn G) (g0 : ∀ r, r < 150 → a (1270 + 4 * r) = c 43 r) (g1 : ∀ r, r < 150 → a (1270 + 4 * r + 1) = c 44 r) (g2 : ∀ r, r < 150 → a (1270 + 4 * r + 2) = c 45 r) (g3 : ∀ r, r < 150 → a (1270 + 4 * r + 3) = c 46 r) (gC : ∀ r, r < G → ∃ k, k < C ∧ c 43 r = nn k) (gQ : ∀ r, r < G → ∃ q, q ≤ Q ∧ c 44 r = nn q) (gI : ∀ r, r < G → ∃ v, v ≤ 9999 ∧ c 45 r = nn v) (gO : ∀ r, r < G → ∃ v, v ≤ 9999 ∧ c 46 r = nn v) : RGau c a G C Q := ⟨hG, cG, aG, g0, g1, g2, g3, gC, gQ, gI, gO⟩
def iGau (j : Nat) : Prop := j = 5 ∨ (1270 ≤ j ∧ j < 1870)
theorem RGau.fr {c c' : Sg} {a a' : Nat → Int32} {G C Q : Nat} (h : RGau c a G C Q) (hc : ∀ i, 42 ≤ i → i ≤ 46 → c' i = c i) (ha : ∀ j, iGau j → a' j = a j) : RGau c' a' G C Q := by
  have e42 := hc 42 (by decide) (by decide)
  have e43 := hc 43 (by decide) (by decide)
  have e44 := hc 44 (by decide) (by decide)
  have e45 := hc 45 (by decide) (by decide)
  have e46 := hc 46 (by decide) (by decide)
  have A : ∀ j, iGau j → a' j = a j := ha
  apply RGau.mk
  case hG => exact h.hG
  case cG => rw [e42]; exact h.cG
  case aG => rw [A _ (by unfold iGau; omega)]; exact h.aG
  case g0 => intro n hn; rw [A _ (by unfold iGau; omega), e43]; exact h.g0 n hn
  case g1 => intro n hn; rw [A _ (by unfold iGau; omega), e44]; exact h.g1 n hn
  case g2 => intro n hn; rw [A _ (by unfold iGau; omega), e45]; exact h.g2 n hn
  case g3 => intro n hn; rw [A _ (by unfold iGau; omega), e46]; exact h.g3 n hn
  case gC => rw [e43]; exact h.gC
  case gQ => rw [e44]; exact h.gQ
  case gI => rw [e45]; exact h.gI
  case gO => rw [e46]; exact h.gO
def RTn (c : Sg) (a : Nat → Int32) (N C Q D T L G : Nat) : Prop :=
  (RNet c a N C Q) ∧
  (RRig c a D N Q) ∧
  (RLaw c a T L) ∧
  (RGau c a G C Q)
theorem RTn.net {c : Sg} {a : Nat → Int32} {N C Q D T L G : Nat} (h : RTn c a N C Q D T L G) : RNet c a N C Q := h.1
theorem RTn.rig {c : Sg} {a : Nat → Int32} {N C Q D T L G : Nat} (h : RTn c a N C Q D T L G) : RRig c a D N Q := h.2.1
theorem RTn.law {c : Sg} {a : Nat → Int32} {N C Q D T L G : Nat} (h : RTn c a N C Q D T L G) : RLaw c a T L := h.2.2.1
theorem RTn.gau {c : Sg} {a : Nat → Int32} {N C Q D T L G : Nat} (h : RTn c a N C Q D T L G) : RGau c a G C Q := h.2.2.2
theorem RTn.mk {c : Sg} {a : Nat → Int32} {N C Q D T L G : Nat} (net : RNet c a N C Q) (rig : RRig c a D N Q) (law : RLaw c a T L) (gau : RGau c a G C Q) : RTn c a N C Q D T L G := ⟨net, rig, law, gau⟩
def RT (c : Sg) (a : Nat → Int32) : Prop := ∃ N C Q D T L G, RTn c a N C Q D T L G
theorem RTn.fr {c c' : Sg} {a a' : Nat → Int32} {N C Q D T L G : Nat} (h : RTn c a N C Q D T L G) (hc : ∀ i, 2 ≤ i → i ≤ 46 → c' i = c i) (ha : ∀ j, j < 5090 → a' j = a j) : RTn c' a' N C Q D T L G :=
  ⟨h.net.fr (fun i h1 h2 => hc i h1 (by omega)) (fun j hj => ha j (by unfold iNet at hj; omega)), h.rig.fr (fun i h1 h2 => hc i (by omega) (by omega)) (fun j hj => ha j (by unfold iRig at hj; omega)), h.law.fr (fun i h1 h2 => hc i (by omega) (by omega)) (fun j hj => ha j (by unfold iLaw at hj; omega)), h.gau.fr (fun i h1 h2 => hc i (by omega) (by omega)) (fun j hj => ha j (by unfold iGau at hj; omega))⟩
theorem RT.fr {c c' : Sg} {a a' : Nat → Int32} (h : RT c a) (hc : ∀ i, 2 ≤ i → i ≤ 46 → c' i = c i) (ha : ∀ j, j < 5090 → a' j = a j) : RT c' a' := by
  obtain ⟨N, C, Q, D, T, L, G, h⟩ := h
  exact ⟨N, C, Q, D, T, L, G, h.fr hc ha⟩
def RI (g : Sg) : Prop := ∀ k, k < 3 → g 217 k = g 186 k ∧ (g 186 k = 0 ∨ g 186 k = 1) ∧ (g 186 k = 1 → RT (fun i => g (i + (47 + 46 * k))) (fun j => g 216 (5090 * (k + 1) + j)))
def RR (TS : Sg → Prop) (g : Sg) : Prop :=
  (RT g (g 216)) ∧
  (RI g) ∧
  (TS g)
theorem RR.now {TS : Sg → Prop} {g : Sg} (h : RR TS g) : RT g (g 216) := h.1
theorem RR.img {TS : Sg → Prop} {g : Sg} (h : RR TS g) : RI g := h.2.1
theorem RR.trn {TS : Sg → Prop} {g : Sg} (h : RR TS g) : TS g := h.2.2
theorem RR.mk {TS : Sg → Prop} {g : Sg} (now : RT g (g 216)) (img : RI g) (trn : TS g) : RR TS g := ⟨now, img, trn⟩
def TSf (TS : Sg → Prop) : Prop := ∀ g g' : Sg, (∀ i, 208 ≤ i → (i ≤ 214 ∨ (229 ≤ i ∧ i ≤ 230)) → g' i = g i) → TS g → TS g'
theorem RI.fr {g g' : Sg} (h : RI g) (hi : ∀ i, 48 ≤ i → i ≤ 186 → g' i = g i) (ha : ∀ j, 5090 ≤ j → g' 216 j = g 216 j) (hh : g' 217 = g 217) : RI g' := by
  intro k hk
  obtain ⟨h1, h2, h3⟩ := h k hk
  have e := hi 186 (by decide) (by decide)
  rw [hh, e]
  refine ⟨h1, h2, fun h9 => (h3 h9).fr (fun i a b => hi _ (by omega) (by omega)) (fun j hj => ha _ (by omega))⟩
theorem RR.put {TS : Sg → Prop} {g g' : Sg} (hT : TSf TS) (h : RR TS g) (hn : RT g' (g' 216)) (hi : ∀ i, 48 ≤ i → i ≤ 186 → g' i = g i) (ha : ∀ j, 5090 ≤ j → g' 216 j = g 216 j) (hh : g' 217 = g 217) (ht : ∀ i, 208 ≤ i → (i ≤ 214 ∨ (229 ≤ i ∧ i ≤ 230)) → g' i = g i) : RR TS g' :=
  ⟨hn, h.img.fr hi ha hh, hT _ _ ht h.trn⟩
theorem RR.scr {TS : Sg → Prop} {g g' : Sg} (hT : TSf TS) (h : RR TS g) (hc : ∀ i, 2 ≤ i → i ≤ 186 → g' i = g i) (ht : ∀ i, 208 ≤ i → (i ≤ 214 ∨ (229 ≤ i ∧ i ≤ 230)) → g' i = g i) (ha : g' 216 = g 216) (hh : g' 217 = g 217) : RR TS g' :=
  ⟨h.now.fr (fun i a b => hc i a (by omega)) (fun j _ => by rw [ha]), h.img.fr (fun i a b => hc i (by omega) b) (fun j _ => by rw [ha]) hh, hT _ _ ht h.trn⟩
theorem u2n {g : Sg} {a i b : Nat} {v : Int32} (h : b ≠ a) : up2 g a i v b = g b := by
  funext j
  exact if_neg (fun e => h e.1)
def up1 (f : Nat → Int32) (i : Nat) (v : Int32) : Nat → Int32 := fun j => if j = i then v else f j
theorem u2e {g : Sg} {a i : Nat} {v : Int32} : up2 g a i v a = up1 (g a) i v := by
  funext j
  show (if a = a ∧ j = i then v else g a j) = if j = i then v else g a j
  simp
theorem up1_eq {f : Nat → Int32} {i : Nat} {v : Int32} : up1 f i v i = v := if_pos rfl
theorem up1_ne {f : Nat → Int32} {i j : Nat} {v : Int32} (h : j ≠ i) : up1 f i v j = f j := if_neg h
end
section
/-! Small numbers, and the small tests of both sides -/
theorem nnI {n : Nat} (h : n < 2147483648) : (nn n).toInt = n := (n32 h).2
theorem nnT {n : Nat} (h : n < 2147483648) : (nn n).toNatClampNeg = n := (n32 h).1
theorem nnB {n k : Nat} (h : n < 2147483648) : (inb (nn n) k = true) = (n < k) := by
  refine propext ⟨fun e => ?_, fun e => n32_inb h e⟩
  unfold inb at e
  rw [nnT h] at e
  simp at e
  exact e.2
theorem nnA (a b : Nat) : nn a + nn b = nn (a + b) := (Int32.ofNat_add a b).symm
theorem nnM (a b : Nat) : nn a * nn b = nn (a * b) := (Int32.ofNat_mul a b).symm
theorem nnAl (a b : Nat) : (no_index (OfNat.ofNat a : Int32)) + nn b = nn (a + b) := nnA a b
theorem nnAr (a b : Nat) : nn a + (no_index (OfNat.ofNat b : Int32)) = nn (a + b) := nnA a b
theorem nnMl (a b : Nat) : (no_index (OfNat.ofNat a : Int32)) * nn b = nn (a * b) := nnM a b
theorem nnMr (a b : Nat) : nn a * (no_index (OfNat.ofNat b : Int32)) = nn (a * b) := nnM a b
theorem nnS {a b : Nat} (h : b ≤ a) : nn a - nn b = nn (a - b) := by
  have : nn a = nn (a - b) + nn b := by rw [nnA, Nat.sub_add_cancel h]
  rw [this, Int32.add_sub_cancel]
theorem nnSr {a b : Nat} (h : b ≤ a) : nn a - (no_index (OfNat.ofNat b : Int32)) = nn (a - b) := nnS h
theorem nnL {a b : Nat} (ha : a < 2147483648) (hb : b < 2147483648) : (nn a < nn b) = (a < b) := by
  rw [Int32.lt_iff_toInt_lt, nnI ha, nnI hb]
  exact propext Int.ofNat_lt
theorem nnE {a b : Nat} (ha : a < 2147483648) (hb : b < 2147483648) : (nn a ≤ nn b) = (a ≤ b) := by
  rw [Int32.le_iff_toInt_le, nnI ha, nnI hb]
  exact propext Int.ofNat_le
theorem nnQ {a b : Nat} (ha : a < 2147483648) (hb : b < 2147483648) : (nn a = nn b) = (a = b) := by
  refine propext ⟨fun e => ?_, fun e => by rw [e]⟩
  have := congrArg Int32.toInt e
  rw [nnI ha, nnI hb] at this
  exact Int.ofNat.inj this
theorem nnLl {a b : Nat} (ha : a < 2147483648) (hb : b < 2147483648) : ((no_index (OfNat.ofNat a : Int32)) < nn b) = (a < b) := nnL ha hb
theorem nnLr {a b : Nat} (ha : a < 2147483648) (hb : b < 2147483648) : (nn a < (no_index (OfNat.ofNat b : Int32))) = (a < b) := nnL ha hb
theorem nnEl {a b : Nat} (ha : a < 2147483648) (hb : b < 2147483648) : ((no_index (OfNat.ofNat a : Int32)) ≤ nn b) = (a ≤ b) := nnE ha hb
theorem nnEr {a b : Nat} (ha : a < 2147483648) (hb : b < 2147483648) : (nn a ≤ (no_index (OfNat.ofNat b : Int32))) = (a ≤ b) := nnE ha hb
theorem nnQr {a b : Nat} (ha : a < 2147483648) (hb : b < 2147483648) : (nn a = (no_index (OfNat.ofNat b : Int32))) = (a = b) := nnQ ha hb
theorem nnN {a : Nat} (ha : a < 2147483648) : (nn a = (-1 : Int32)) = False := by
  refine propext ⟨fun e => ?_, False.elim⟩
  have := congrArg Int32.toInt e
  rw [nnI ha] at this
  have e1 : (-1 : Int32).toInt = -1 := by decide
  omega
theorem nnP {a : Nat} (ha : a < 2147483648) : (nn a < (0 : Int32)) = False := by
  rw [show (0 : Int32) = nn 0 from rfl, nnL ha (by decide)]
  simp
theorem nnD {a b : Nat} (ha : a < 2147483648) (hb : b < 2147483648) : nn a / nn b = nn (a / b) := by
  apply Int32.toInt_inj.mp
  have hq : a / b ≤ a := Nat.div_le_self a b
  have hq0 : (0 : Int) ≤ ((a / b : Nat) : Int) := Int.natCast_nonneg _
  rw [Int32.toInt_div, nnI ha, nnI hb, nnI (by omega), ← Int.ofNat_tdiv, Int.bmod_def, show (2 : Nat) ^ 32 = 4294967296 from rfl]
  generalize a / b = q at *
  split <;> omega
theorem nnDr {a b : Nat} (ha : a < 2147483648) (hb : b < 2147483648) : nn a / (no_index (OfNat.ofNat b : Int32)) = nn (a / b) := nnD ha hb
theorem z10 : ((1 : Int32) = 0) = False := by decide
theorem z01 : ((0 : Int32) = 1) = False := by decide
/-- a value in 0 .. N-1 -/
theorem rg {v : Int32} {N : Nat} (hN : N < 2147483648) : (¬ v < 0 ∧ v < nn N) ↔ ∃ n, n < N ∧ v = nn n := by
  constructor
  · rintro ⟨h1, h2⟩
    have h1 : ¬ v.toInt < 0 := fun e => h1 (Int32.lt_iff_toInt_lt.mpr e)
    have h2 : v.toInt < N := by have := Int32.lt_iff_toInt_lt.mp h2; rwa [nnI hN] at this
    refine ⟨v.toInt.toNat, by omega, ?_⟩
    apply Int32.toInt_inj.mp
    rw [nnI (by omega)]
    omega
  · rintro ⟨n, hn, rfl⟩
    exact ⟨by rw [nnP (by omega)]; exact id, by rw [nnL (by omega) hN]; exact hn⟩
theorem le_lt1 {v : Int32} {N : Nat} (hN : N < 2147483648) : v ≤ nn N - 1 ↔ v < nn N := by
  rw [Int32.le_iff_toInt_le, Int32.lt_iff_toInt_lt, nnI hN]
  have e : (nn N - 1).toInt = (N : Int) - 1 := by
    have e : nn N - 1 = Int32.ofInt ((N : Int) - 1) := by rw [Int32.ofInt_sub]; rfl
    rw [e, Int32.toInt_ofInt, Int.bmod_def, show Int32.size = 4294967296 from rfl]
    omega
  rw [e]
  omega
theorem within_eq (a b c : Int32) (g : Sg) : x_within a b c g = some (if b ≤ a ∧ a ≤ c then 1 else 0) := by
  unfold x_within
  by_cases h1 : a < b
  · rw [if_pos h1, if_neg (fun e => absurd h1 (Int32.not_lt.mpr e.1))]
  · rw [if_neg h1]
    by_cases h2 : c < a
    · rw [if_pos h2, if_neg (fun e => absurd h2 (Int32.not_lt.mpr e.2))]
    · rw [if_neg h2, if_pos ⟨Int32.not_lt.mp h1, Int32.not_lt.mp h2⟩]
theorem isIn_eq (a b c : Int32) (g : Sg) : m_isIn a b c g = some (if b ≤ a ∧ a ≤ c then 1 else 0) := within_eq a b c g
/-- v in 0 .. N-1, of the model's counts -/
theorem rg1 {v : Int32} {N : Nat} (hN : N < 2147483648) : (0 ≤ v ∧ v ≤ nn N - 1) ↔ ∃ n, n < N ∧ v = nn n := by
  rw [← rg hN, le_lt1 hN, Int32.not_lt]
theorem rgK {v : Int32} {K : Nat} (hK : K + 1 < 2147483648) : (0 ≤ v ∧ v ≤ nn K) ↔ ∃ n, n < K + 1 ∧ v = nn n := by
  rw [← rg1 hK]
  have : nn (K + 1) - 1 = nn K := nnS (a := K + 1) (b := 1) (by omega)
  rw [this]
theorem isOf_y {n N : Nat} {w : Int32} {g : Sg} (hw : w = nn N) (hN : N < 2147483648) (h : n < N) : m_isIn (nn n) 0 (w - 1) g = some 1 := by
  rw [isIn_eq, hw, if_pos ((rg1 hN).mpr ⟨n, h, rfl⟩)]
theorem isOf_n {v : Int32} {N : Nat} {w : Int32} {g : Sg} (hw : w = nn N) (hN : N < 2147483648) (h : ¬ ∃ n, n < N ∧ v = nn n) : m_isIn v 0 (w - 1) g = some 0 := by
  rw [isIn_eq, hw, if_neg (fun e => h ((rg1 hN).mp e))]
theorem isInK_y {n K : Nat} {w : Int32} {g : Sg} (hw : w = nn K) (hK : K + 1 < 2147483648) (h : n ≤ K) : m_isIn (nn n) 0 w g = some 1 := by
  rw [isIn_eq, hw, if_pos ((rgK hK).mpr ⟨n, by omega, rfl⟩)]
theorem isInK_n {v : Int32} {K : Nat} {w : Int32} {g : Sg} (hw : w = nn K) (hK : K + 1 < 2147483648) (h : ¬ ∃ n, n < K + 1 ∧ v = nn n) : m_isIn v 0 w g = some 0 := by
  rw [isIn_eq, hw, if_neg (fun e => h ((rgK hK).mp e))]
theorem wthK_y {n K : Nat} {w : Int32} {g : Sg} (hw : w = nn K) (hK : K + 1 < 2147483648) (h : n ≤ K) : x_within (nn n) 0 w g = some 1 := isInK_y (g := g) hw hK h
theorem wthK_n {v : Int32} {K : Nat} {w : Int32} {g : Sg} (hw : w = nn K) (hK : K + 1 < 2147483648) (h : ¬ ∃ n, n < K + 1 ∧ v = nn n) : x_within v 0 w g = some 0 := isInK_n (g := g) hw hK h
section RN
variable {g : Sg} {N C Q D T L G : Nat} {v : Int32}
theorem hasNode_y (h : RNet g (g 216) N C Q) {n : Nat} (hn : n < N) : net_hasNode (nn n) g = some 1 := by
  have := h.hN
  unfold net_hasNode
  rw [h.cN]
  simp (disch := first | omega | decide) only [nnP, nnE, nnEl, if_false]
  rw [if_neg (show ¬ N ≤ n by omega), if_neg (show ¬ 10 ≤ n by omega)]
theorem hasNode_n (h : RNet g (g 216) N C Q) (hn : ¬ ∃ n, n < N ∧ v = nn n) : net_hasNode v g = some 0 := by
  have := h.hN
  unfold net_hasNode
  rw [h.cN]
  by_cases h1 : v < 0
  · rw [if_pos h1]
  · rw [if_neg h1]
    by_cases h2 : nn N ≤ v
    · rw [if_pos h2]
    · exact absurd ((rg (by omega)).mp ⟨h1, Int32.not_le.mp h2⟩) hn
theorem hasChan_y (h : RNet g (g 216) N C Q) {n : Nat} (hn : n < C) : net_hasChannel (nn n) g = some 1 := by
  have := h.hC
  unfold net_hasChannel
  rw [h.cC]
  simp (disch := first | omega | decide) only [nnP, nnE, nnEl, if_false]
  rw [if_neg (show ¬ C ≤ n by omega), if_neg (show ¬ 14 ≤ n by omega)]
theorem hasChan_n (h : RNet g (g 216) N C Q) (hn : ¬ ∃ n, n < C ∧ v = nn n) : net_hasChannel v g = some 0 := by
  have := h.hC
  unfold net_hasChannel
  rw [h.cC]
  by_cases h1 : v < 0
  · rw [if_pos h1]
  · rw [if_neg h1]
    by_cases h2 : nn C ≤ v
    · rw [if_pos h2]
    · exact absurd ((rg (by omega)).mp ⟨h1, Int32.not_le.mp h2⟩) hn
theorem isOf0_y (h : RNet g (g 216) N C Q) {n : Nat} (hn : n < N) : m_isOf_k0 (nn n) g = some 1 := by
  unfold m_isOf_k0
  rw [isOf_y h.aN (by have := h.hN; omega) hn]
  rfl
theorem isOf0_n (h : RNet g (g 216) N C Q) (hn : ¬ ∃ n, n < N ∧ v = nn n) : m_isOf_k0 v g = some 0 := by
  unfold m_isOf_k0
  rw [isOf_n h.aN (by have := h.hN; omega) hn]
  rfl
theorem isOf1_y (h : RNet g (g 216) N C Q) {n : Nat} (hn : n < C) : m_isOf_k1 (nn n) g = some 1 := by
  unfold m_isOf_k1
  rw [isOf_y h.aC (by have := h.hC; omega) hn]
  rfl
theorem isOf1_n (h : RNet g (g 216) N C Q) (hn : ¬ ∃ n, n < C ∧ v = nn n) : m_isOf_k1 v g = some 0 := by
  unfold m_isOf_k1
  rw [isOf_n h.aC (by have := h.hC; omega) hn]
  rfl
end RN
end
section
/-! The small methods: both sides answer alike and stay related -/
theorem RNet.sizeU {c c' : Sg} {a a' : Nat → Int32} {N C Q n : Nat} {v : Int32} (h : RNet c a N C Q) (hn : n < 10) (hc : ∀ i, 2 ≤ i → i ≤ 21 → i ≠ 4 → c' i = c i) (h4 : c' 4 = up1 (c 4) n v) (ha : ∀ j, iNet j → j ≠ 140 + 5 * n + 1 → a' j = a j) (ha1 : a' (140 + 5 * n + 1) = v) : RNet c' a' N C Q := by
  have e2 := hc 2 (by decide) (by decide) (by decide)
  have e3 := hc 3 (by decide) (by decide) (by decide)
  have e5 := hc 5 (by decide) (by decide) (by decide)
  have e7 := hc 7 (by decide) (by decide) (by decide)
  have e8 := hc 8 (by decide) (by decide) (by decide)
  have e9 := hc 9 (by decide) (by decide) (by decide)
  have e10 := hc 10 (by decide) (by decide) (by decide)
  have e11 := hc 11 (by decide) (by decide) (by decide)
  have e12 := hc 12 (by decide) (by decide) (by decide)
  have e13 := hc 13 (by decide) (by decide) (by decide)
  have e14 := hc 14 (by decide) (by decide) (by decide)
  have e15 := hc 15 (by decide) (by decide) (by decide)
  have e17 := hc 17 (by decide) (by decide) (by decide)
  have e18 := hc 18 (by decide) (by decide) (by decide)
  have e19 := hc 19 (by decide) (by decide) (by decide)
  have e20 := hc 20 (by decide) (by decide) (by decide)
  have e21 := hc 21 (by decide) (by decide) (by decide)
  have A := ha
  apply RNet.mk
  case hN => exact h.hN
  case hC => exact h.hC
  case hQ => exact h.hQ
  case cN => rw [e2]; exact h.cN
  case aN => rw [A _ (by unfold iNet; omega) (by omega)]; exact h.aN
  case cC => rw [e2]; exact h.cC
  case aC => rw [A _ (by unfold iNet; omega) (by omega)]; exact h.aC
  case cQ => rw [e2]; exact h.cQ
  case aQ => rw [A _ (by unfold iNet; omega) (by omega)]; exact h.aQ
  case kind => intro n hn; rw [A _ (by unfold iNet; omega) (by omega), e3]; exact h.kind n hn
  case size => 
    intro m hm
    rw [h4]
    by_cases e : m = n
    · subst e; rw [ha1, up1_eq]
    · rw [up1_ne e, A _ (by unfold iNet; omega) (by omega)]; exact h.size m hm
  case gate => intro n hn; rw [A _ (by unfold iNet; omega) (by omega), e5]; exact h.gate n hn
  case kep0 => intro n hn; rw [A _ (by unfold iNet; omega) (by omega), e7]; exact h.kep0 n hn
  case kep1 => intro n hn; rw [A _ (by unfold iNet; omega) (by omega), e8]; exact h.kep1 n hn
  case frm => intro n hn; rw [A _ (by unfold iNet; omega) (by omega), e9]; exact h.frm n hn
  case to => intro n hn; rw [A _ (by unfold iNet; omega) (by omega), e10]; exact h.to n hn
  case low => intro n hn; rw [A _ (by unfold iNet; omega) (by omega), e11]; exact h.low n hn
  case hig => intro n hn; rw [A _ (by unfold iNet; omega) (by omega), e12]; exact h.hig n hn
  case trv => intro n hn; rw [A _ (by unfold iNet; omega) (by omega), e13]; exact h.trv n hn
  case brd => intro n hn; rw [A _ (by unfold iNet; omega) (by omega), e14]; exact h.brd n hn
  case brk => intro n hn; rw [A _ (by unfold iNet; omega) (by omega), e15]; exact h.brk n hn
  case way0 => intro n hn; rw [A _ (by unfold iNet; omega) (by omega), e17]; exact h.way0 n hn
  case way1 => intro n hn; rw [A _ (by unfold iNet; omega) (by omega), e18]; exact h.way1 n hn
  case gateV => rw [e5, e9]; exact h.gateV
  case ends => rw [e9, e10]; exact h.ends
  case lowV => rw [e11]; exact h.lowV
  case higV => rw [e12]; exact h.higV
  case trvV => rw [e13]; exact h.trvV
  case brdV => rw [e14]; exact h.brdV
  case brkV => rw [e15]; exact h.brkV
  case kindV => rw [e3]; exact h.kindV
  case kepZ => rw [e7, e8]; exact h.kepZ
  case brkZ => rw [e15]; exact h.brkZ
  case wayZ => rw [e17, e18]; exact h.wayZ
  case su00 => rw [A _ (by unfold iNet; omega) (by omega), e3, e7]; exact h.su00
  case su01 => rw [A _ (by unfold iNet; omega) (by omega), e3, e7]; exact h.su01
  case su02 => rw [A _ (by unfold iNet; omega) (by omega), e3, e7]; exact h.su02
  case su03 => rw [A _ (by unfold iNet; omega) (by omega), e17]; exact h.su03
  case su04 => rw [A _ (by unfold iNet; omega) (by omega), e19]; exact h.su04
  case su05 => rw [A _ (by unfold iNet; omega) (by omega), e20]; exact h.su05
  case su06 => rw [A _ (by unfold iNet; omega) (by omega), e21]; exact h.su06
  case su10 => rw [A _ (by unfold iNet; omega) (by omega), e3, e8]; exact h.su10
  case su11 => rw [A _ (by unfold iNet; omega) (by omega), e3, e8]; exact h.su11
  case su12 => rw [A _ (by unfold iNet; omega) (by omega), e3, e8]; exact h.su12
  case su13 => rw [A _ (by unfold iNet; omega) (by omega), e18]; exact h.su13
  case su14 => rw [A _ (by unfold iNet; omega) (by omega), e19]; exact h.su14
  case su15 => rw [A _ (by unfold iNet; omega) (by omega), e20]; exact h.su15
  case su16 => rw [A _ (by unfold iNet; omega) (by omega), e21]; exact h.su16
theorem RNet.gateU {c c' : Sg} {a a' : Nat → Int32} {N C Q n : Nat} {v : Int32} (h : RNet c a N C Q) (hn : n < 10) (hv : v = -1 ∨ ∃ k, k < C ∧ v = nn k ∧ c 9 k = nn n) (hc : ∀ i, 2 ≤ i → i ≤ 21 → i ≠ 5 → c' i = c i) (h5 : c' 5 = up1 (c 5) n v) (ha : ∀ j, iNet j → j ≠ 140 + 5 * n + 2 → a' j = a j) (ha1 : a' (140 + 5 * n + 2) = v) : RNet c' a' N C Q := by
  have e2 := hc 2 (by decide) (by decide) (by decide)
  have e3 := hc 3 (by decide) (by decide) (by decide)
  have e4 := hc 4 (by decide) (by decide) (by decide)
  have e7 := hc 7 (by decide) (by decide) (by decide)
  have e8 := hc 8 (by decide) (by decide) (by decide)
  have e9 := hc 9 (by decide) (by decide) (by decide)
  have e10 := hc 10 (by decide) (by decide) (by decide)
  have e11 := hc 11 (by decide) (by decide) (by decide)
  have e12 := hc 12 (by decide) (by decide) (by decide)
  have e13 := hc 13 (by decide) (by decide) (by decide)
  have e14 := hc 14 (by decide) (by decide) (by decide)
  have e15 := hc 15 (by decide) (by decide) (by decide)
  have e17 := hc 17 (by decide) (by decide) (by decide)
  have e18 := hc 18 (by decide) (by decide) (by decide)
  have e19 := hc 19 (by decide) (by decide) (by decide)
  have e20 := hc 20 (by decide) (by decide) (by decide)
  have e21 := hc 21 (by decide) (by decide) (by decide)
  have A := ha
  apply RNet.mk
  case hN => exact h.hN
  case hC => exact h.hC
  case hQ => exact h.hQ
  case cN => rw [e2]; exact h.cN
  case aN => rw [A _ (by unfold iNet; omega) (by omega)]; exact h.aN
  case cC => rw [e2]; exact h.cC
  case aC => rw [A _ (by unfold iNet; omega) (by omega)]; exact h.aC
  case cQ => rw [e2]; exact h.cQ
  case aQ => rw [A _ (by unfold iNet; omega) (by omega)]; exact h.aQ
  case kind => intro n hn; rw [A _ (by unfold iNet; omega) (by omega), e3]; exact h.kind n hn
  case size => intro n hn; rw [A _ (by unfold iNet; omega) (by omega), e4]; exact h.size n hn
  case gate => 
    intro m hm
    rw [h5]
    by_cases e : m = n
    · subst e; rw [ha1, up1_eq]
    · rw [up1_ne e, A _ (by unfold iNet; omega) (by omega)]; exact h.gate m hm
  case kep0 => intro n hn; rw [A _ (by unfold iNet; omega) (by omega), e7]; exact h.kep0 n hn
  case kep1 => intro n hn; rw [A _ (by unfold iNet; omega) (by omega), e8]; exact h.kep1 n hn
  case frm => intro n hn; rw [A _ (by unfold iNet; omega) (by omega), e9]; exact h.frm n hn
  case to => intro n hn; rw [A _ (by unfold iNet; omega) (by omega), e10]; exact h.to n hn
  case low => intro n hn; rw [A _ (by unfold iNet; omega) (by omega), e11]; exact h.low n hn
  case hig => intro n hn; rw [A _ (by unfold iNet; omega) (by omega), e12]; exact h.hig n hn
  case trv => intro n hn; rw [A _ (by unfold iNet; omega) (by omega), e13]; exact h.trv n hn
  case brd => intro n hn; rw [A _ (by unfold iNet; omega) (by omega), e14]; exact h.brd n hn
  case brk => intro n hn; rw [A _ (by unfold iNet; omega) (by omega), e15]; exact h.brk n hn
  case way0 => intro n hn; rw [A _ (by unfold iNet; omega) (by omega), e17]; exact h.way0 n hn
  case way1 => intro n hn; rw [A _ (by unfold iNet; omega) (by omega), e18]; exact h.way1 n hn
  case gateV => 
    intro m hm
    rw [h5, e9]
    by_cases e : m = n
    · subst e; rw [up1_eq]; exact hv
    · rw [up1_ne e]; exact h.gateV m hm
  case ends => rw [e9, e10]; exact h.ends
  case lowV => rw [e11]; exact h.lowV
  case higV => rw [e12]; exact h.higV
  case trvV => rw [e13]; exact h.trvV
  case brdV => rw [e14]; exact h.brdV
  case brkV => rw [e15]; exact h.brkV
  case kindV => rw [e3]; exact h.kindV
  case kepZ => rw [e7, e8]; exact h.kepZ
  case brkZ => rw [e15]; exact h.brkZ
  case wayZ => rw [e17, e18]; exact h.wayZ
  case su00 => rw [A _ (by unfold iNet; omega) (by omega), e3, e7]; exact h.su00
  case su01 => rw [A _ (by unfold iNet; omega) (by omega), e3, e7]; exact h.su01
  case su02 => rw [A _ (by unfold iNet; omega) (by omega), e3, e7]; exact h.su02
  case su03 => rw [A _ (by unfold iNet; omega) (by omega), e17]; exact h.su03
  case su04 => rw [A _ (by unfold iNet; omega) (by omega), e19]; exact h.su04
  case su05 => rw [A _ (by unfold iNet; omega) (by omega), e20]; exact h.su05
  case su06 => rw [A _ (by unfold iNet; omega) (by omega), e21]; exact h.su06
  case su10 => rw [A _ (by unfold iNet; omega) (by omega), e3, e8]; exact h.su10
  case su11 => rw [A _ (by unfold iNet; omega) (by omega), e3, e8]; exact h.su11
  case su12 => rw [A _ (by unfold iNet; omega) (by omega), e3, e8]; exact h.su12
  case su13 => rw [A _ (by unfold iNet; omega) (by omega), e18]; exact h.su13
  case su14 => rw [A _ (by unfold iNet; omega) (by omega), e19]; exact h.su14
  case su15 => rw [A _ (by unfold iNet; omega) (by omega), e20]; exact h.su15
  case su16 => rw [A _ (by unfold iNet; omega) (by omega), e21]; exact h.su16
theorem nodeOf_y {g : Sg} {n k : Nat} (hn : n < 10) (hk : k < 5) : m_nodeOf (nn n) (nn k) g = some (g 216 (140 + 5 * n + k)) := by
  unfold m_nodeOf
  simp (disch := first | omega | decide) only [lt1, nnMl, nnMr, nnAl, nnAr, nnA, nnM, nnB, nnT, nnP, nnE, nnEl, nnEr, nnL, nnLl, nnLr, nnQ, nnQr, nnN, Nat.add_zero, if_false, if_true, Option.bind_some, not_true, not_false_iff, not_true_eq_false, not_false_eq_true, eq_self, Nat.not_lt_zero, z10, z01, or_true, true_or, or_false, false_or, true_and, false_and]
  rw [if_pos (show 140 + 5 * n + k < 20360 by omega)]
theorem nodeOf0_y {g : Sg} {n : Nat} (hn : n < 10) : m_nodeOf_k0 (nn n) g = some (g 216 (140 + 5 * n)) := nodeOf_y hn (k := 0) (by decide)
theorem nodeOf4_y {g : Sg} {n : Nat} (hn : n < 10) : m_nodeOf_k4 (nn n) g = some (g 216 (140 + 5 * n + 4)) := nodeOf_y hn (k := 4) (by decide)
theorem fits_eq (k v : Int32) (g g' : Sg) : ∃ b, (b = 0 ∨ b = 1) ∧ net_fits k v g = some b ∧ m_maySize k v g' = some b ∧ (b = 1 → ∃ n, n ≤ 4 ∧ k = nn n) := by
  unfold net_fits m_maySize
  simp only [within_eq, isIn_eq, Option.bind_some]
  by_cases hk : ∃ n, n < 5 ∧ k = nn n
  · obtain ⟨n, hn, rfl⟩ := hk
    have e : ∀ (c : Prop) [Decidable c], ∃ b : Int32, (b = 0 ∨ b = 1) ∧ (if c then (1 : Int32) else 0) = b := fun c _ => by
      by_cases h : c
      · exact ⟨1, Or.inr rfl, if_pos h⟩
      · exact ⟨0, Or.inl rfl, if_neg h⟩
    simp (disch := first | omega | decide) only [lt1, nnMl, nnMr, nnAl, nnAr, nnA, nnM, nnB, nnT, nnP, nnE, nnEl, nnEr, nnL, nnLl, nnLr, nnQ, nnQr, nnN, Nat.add_zero, if_false, if_true, Option.bind_some, not_true, not_false_iff, not_true_eq_false, not_false_eq_true, eq_self, Nat.not_lt_zero, z10, z01, or_true, true_or, or_false, false_or, true_and, false_and]
    have c4 : n = 0 ∨ n = 1 ∨ n = 2 ∨ n = 3 ∨ n = 4 := by omega
    rcases c4 with rfl | rfl | rfl | rfl | rfl
    · obtain ⟨b, hb, e0⟩ := e (0 ≤ v ∧ v ≤ 999)
      refine ⟨b, hb, ?_, ?_, fun _ => ⟨0, by decide, rfl⟩⟩
      · show (if (if (0 ≤ v ∧ v ≤ 999) then (1 : Int32) else 0) = 0 ∨ (if (0 ≤ v ∧ v ≤ 999) then (1 : Int32) else 0) = 1 then some (if (0 ≤ v ∧ v ≤ 999) then (1 : Int32) else 0) else none) = some b
        rw [e0, if_pos hb]
      · show (if (if (0 ≤ v ∧ v ≤ 999) then (1 : Int32) else 0) = 0 ∨ (if (0 ≤ v ∧ v ≤ 999) then (1 : Int32) else 0) = 1 then some (if (0 ≤ v ∧ v ≤ 999) then (1 : Int32) else 0) else none) = some b
        rw [e0, if_pos hb]
    · obtain ⟨b, hb, e0⟩ := e (0 ≤ v ∧ v ≤ 0)
      refine ⟨b, hb, ?_, ?_, fun _ => ⟨1, by decide, rfl⟩⟩
      · show (if (if (0 ≤ v ∧ v ≤ 0) then (1 : Int32) else 0) = 0 ∨ (if (0 ≤ v ∧ v ≤ 0) then (1 : Int32) else 0) = 1 then some (if (0 ≤ v ∧ v ≤ 0) then (1 : Int32) else 0) else none) = some b
        rw [e0, if_pos hb]
      · show (if ¬ v = 0 then some 0 else some 1) = some b
        rw [← e0]
        by_cases hv : v = 0
        · subst hv; decide
        · rw [if_pos hv, if_neg (fun q => hv (Int32.le_antisymm q.2 q.1))]
    · obtain ⟨b, hb, e0⟩ := e (1 ≤ v ∧ v ≤ 99999)
      refine ⟨b, hb, ?_, ?_, fun _ => ⟨2, by decide, rfl⟩⟩
      · show (if (if (1 ≤ v ∧ v ≤ 99999) then (1 : Int32) else 0) = 0 ∨ (if (1 ≤ v ∧ v ≤ 99999) then (1 : Int32) else 0) = 1 then some (if (1 ≤ v ∧ v ≤ 99999) then (1 : Int32) else 0) else none) = some b
        rw [e0, if_pos hb]
      · show (if (if (1 ≤ v ∧ v ≤ 99999) then (1 : Int32) else 0) = 0 then some 0 else some 1) = some b
        rw [e0]
        rcases hb with rfl | rfl <;> rfl
    · obtain ⟨b, hb, e0⟩ := e (1 ≤ v ∧ v ≤ 500)
      refine ⟨b, hb, ?_, ?_, fun _ => ⟨3, by decide, rfl⟩⟩
      · show (if (if (1 ≤ v ∧ v ≤ 500) then (1 : Int32) else 0) = 0 ∨ (if (1 ≤ v ∧ v ≤ 500) then (1 : Int32) else 0) = 1 then some (if (1 ≤ v ∧ v ≤ 500) then (1 : Int32) else 0) else none) = some b
        rw [e0, if_pos hb]
      · show (if (if (1 ≤ v ∧ v ≤ 500) then (1 : Int32) else 0) = 0 ∨ (if (1 ≤ v ∧ v ≤ 500) then (1 : Int32) else 0) = 1 then some (if (1 ≤ v ∧ v ≤ 500) then (1 : Int32) else 0) else none) = some b
        rw [e0, if_pos hb]
    · obtain ⟨b, hb, e0⟩ := e (1 ≤ v ∧ v ≤ 99999)
      refine ⟨b, hb, ?_, ?_, fun _ => ⟨4, by decide, rfl⟩⟩
      · show (if (if (1 ≤ v ∧ v ≤ 99999) then (1 : Int32) else 0) = 0 ∨ (if (1 ≤ v ∧ v ≤ 99999) then (1 : Int32) else 0) = 1 then some (if (1 ≤ v ∧ v ≤ 99999) then (1 : Int32) else 0) else none) = some b
        rw [e0, if_pos hb]
      · show (if (if (1 ≤ v ∧ v ≤ 99999) then (1 : Int32) else 0) = 0 then some 0 else some 1) = some b
        rw [e0]
        rcases hb with rfl | rfl <;> rfl
  · have hk5 : ¬ (¬ k < 0 ∧ k < nn 5) := fun e => hk ((rg (by decide)).mp e)
    have n0 : ∀ m, m < 5 → ¬ k = nn m := fun m hm e => hk ⟨m, hm, e⟩
    refine ⟨0, Or.inl rfl, ?_, ?_, fun e => absurd e (by decide)⟩
    · by_cases h1 : k < 0
      · rw [if_pos h1]
      · rw [if_neg h1, if_pos (show (5 : Int32) ≤ k from Int32.not_lt.mp (fun e => hk5 ⟨h1, e⟩))]
    · rw [if_pos (show ¬ k = 0 from n0 0 (by decide)), if_pos (show ¬ k = 1 from n0 1 (by decide)), if_pos (show ¬ k = 3 from n0 3 (by decide))]
      have e : ¬ (2 ≤ k ∧ k ≤ 4) := fun e => by
        obtain ⟨m, hm, e9⟩ := (rgK (K := 4) (v := k) (by decide)).mp ⟨Int32.le_trans (by decide) e.1, e.2⟩
        exact n0 m hm e9
      rw [if_neg e]
      rfl

section SA
theorem sim_about {TS : Sg → Prop} : Sim_about (RR TS) := by
  intro v1 v2 g hR
  obtain ⟨N, C, Q, D, T, L, G, h⟩ := hR.now
  have hN := h.net.hN
  by_cases hn : ∃ n, n < N ∧ v1 = nn n
  · obtain ⟨n, hn, rfl⟩ := hn
    have h10 : n < 10 := by omega
    by_cases hk : ∃ k, k < 5 ∧ v2 = nn k
    · obtain ⟨k, hk, rfl⟩ := hk
      refine ⟨0, 0, g 216 (140 + 5 * n + k), g, g, ?_, ?_, hR, rfl, rfl⟩
      · unfold x_about
        rw [hasNode_y h.net hn]
        have c4 : k = 0 ∨ k = 1 ∨ k = 2 ∨ k = 3 ∨ k = 4 := by omega
        rcases c4 with rfl | rfl | rfl | rfl | rfl
        · show (if inb (nn n) 10 = true then some (g 3 (nn n).toNatClampNeg) else none) = _; simp (disch := first | omega | decide) only [lt1, nnMl, nnMr, nnAl, nnAr, nnA, nnM, nnB, nnT, nnP, nnE, nnEl, nnEr, nnL, nnLl, nnLr, nnQ, nnQr, nnN, Nat.add_zero, if_false, if_true, Option.bind_some, not_true, not_false_iff, not_true_eq_false, not_false_eq_true, eq_self, Nat.not_lt_zero, z10, z01, or_true, true_or, or_false, false_or, true_and, false_and, h10, ← h.net.kind]
        · show (if inb (nn n) 10 = true then some (g 4 (nn n).toNatClampNeg) else none) = _; simp (disch := first | omega | decide) only [lt1, nnMl, nnMr, nnAl, nnAr, nnA, nnM, nnB, nnT, nnP, nnE, nnEl, nnEr, nnL, nnLl, nnLr, nnQ, nnQr, nnN, Nat.add_zero, if_false, if_true, Option.bind_some, not_true, not_false_iff, not_true_eq_false, not_false_eq_true, eq_self, Nat.not_lt_zero, z10, z01, or_true, true_or, or_false, false_or, true_and, false_and, h10, ← h.net.size]
        · show (if inb (nn n) 10 = true then some (g 5 (nn n).toNatClampNeg) else none) = _; simp (disch := first | omega | decide) only [lt1, nnMl, nnMr, nnAl, nnAr, nnA, nnM, nnB, nnT, nnP, nnE, nnEl, nnEr, nnL, nnLl, nnLr, nnQ, nnQr, nnN, Nat.add_zero, if_false, if_true, Option.bind_some, not_true, not_false_iff, not_true_eq_false, not_false_eq_true, eq_self, Nat.not_lt_zero, z10, z01, or_true, true_or, or_false, false_or, true_and, false_and, h10, ← h.net.gate]
        · show (if inb (nn n) 10 = true then some (g 7 (nn n).toNatClampNeg) else none) = _; simp (disch := first | omega | decide) only [lt1, nnMl, nnMr, nnAl, nnAr, nnA, nnM, nnB, nnT, nnP, nnE, nnEl, nnEr, nnL, nnLl, nnLr, nnQ, nnQr, nnN, Nat.add_zero, if_false, if_true, Option.bind_some, not_true, not_false_iff, not_true_eq_false, not_false_eq_true, eq_self, Nat.not_lt_zero, z10, z01, or_true, true_or, or_false, false_or, true_and, false_and, h10, ← h.net.kep0]
        · show (if inb (nn n) 10 = true then some (g 8 (nn n).toNatClampNeg) else none) = _; simp (disch := first | omega | decide) only [lt1, nnMl, nnMr, nnAl, nnAr, nnA, nnM, nnB, nnT, nnP, nnE, nnEl, nnEr, nnL, nnLl, nnLr, nnQ, nnQr, nnN, Nat.add_zero, if_false, if_true, Option.bind_some, not_true, not_false_iff, not_true_eq_false, not_false_eq_true, eq_self, Nat.not_lt_zero, z10, z01, or_true, true_or, or_false, false_or, true_and, false_and, h10, ← h.net.kep1]
      · unfold m_about
        rw [isOf0_y h.net hn, isInK_y (w := 4) (K := 4) rfl (by decide) (by omega)]
        show Option.bind (m_nodeOf (nn n) (nn k) g) (fun x3 => some x3) = _
        rw [nodeOf_y h10 hk]
        rfl
    · refine ⟨0, 0, -2, g, g, ?_, ?_, hR, rfl, rfl⟩
      · unfold x_about
        rw [hasNode_y h.net hn]
        show (if v2 = 0 then _ else _) = _
        rw [if_neg (show ¬ v2 = 0 from fun e => hk ⟨0, by decide, e⟩), if_neg (show ¬ v2 = 1 from fun e => hk ⟨1, by decide, e⟩), if_neg (show ¬ v2 = 2 from fun e => hk ⟨2, by decide, e⟩), if_neg (show ¬ v2 = 3 from fun e => hk ⟨3, by decide, e⟩), if_neg (show ¬ v2 = 4 from fun e => hk ⟨4, by decide, e⟩)]
      · unfold m_about
        rw [isOf0_y h.net hn, isInK_n (w := 4) (K := 4) rfl (by decide) hk]
        rfl
  · refine ⟨0, 0, -2, g, g, ?_, ?_, hR, rfl, rfl⟩
    · unfold x_about
      rw [hasNode_n h.net hn]
      rfl
    · unfold m_about
      rw [isOf0_n h.net hn]
      rfl
theorem sim_size {TS : Sg → Prop} (hT : TSf TS) : Sim_size (RR TS) := by
  intro v1 v2 g hR
  obtain ⟨N, C, Q, D, T, L, G, h⟩ := hR.now
  have hN := h.net.hN
  by_cases hn : ∃ n, n < N ∧ v1 = nn n
  · obtain ⟨n, hn, rfl⟩ := hn
    have h10 : n < 10 := by omega
    obtain ⟨b, hb, f1, f2, -⟩ := fits_eq (g 3 n) v2 g g
    have e3 := h.net.kind n h10
    have e8 := h.net.kep1 n h10
    have hx : x_size (nn n) v2 g = some (if b = 1 ∧ (g 3 n = 2 → g 8 n ≤ v2) then (1, up2 g 4 n v2) else (0, g)) := by
      unfold x_size x_size_55
      rw [hasNode_y h.net hn]
      simp (disch := first | omega | decide) only [lt1, nnMl, nnMr, nnAl, nnAr, nnA, nnM, nnB, nnT, nnP, nnE, nnEl, nnEr, nnL, nnLl, nnLr, nnQ, nnQr, nnN, Nat.add_zero, if_false, if_true, Option.bind_some, not_true, not_false_iff, not_true_eq_false, not_false_eq_true, eq_self, Nat.not_lt_zero, z10, z01, or_true, true_or, or_false, false_or, true_and, false_and, h10, f1]
      rcases hb with rfl | rfl
      · simp (disch := first | omega | decide) only [lt1, nnMl, nnMr, nnAl, nnAr, nnA, nnM, nnB, nnT, nnP, nnE, nnEl, nnEr, nnL, nnLl, nnLr, nnQ, nnQr, nnN, Nat.add_zero, if_false, if_true, Option.bind_some, not_true, not_false_iff, not_true_eq_false, not_false_eq_true, eq_self, Nat.not_lt_zero, z10, z01, or_true, true_or, or_false, false_or, true_and, false_and]
      · simp (disch := first | omega | decide) only [lt1, nnMl, nnMr, nnAl, nnAr, nnA, nnM, nnB, nnT, nnP, nnE, nnEl, nnEr, nnL, nnLl, nnLr, nnQ, nnQr, nnN, Nat.add_zero, if_false, if_true, Option.bind_some, not_true, not_false_iff, not_true_eq_false, not_false_eq_true, eq_self, Nat.not_lt_zero, z10, z01, or_true, true_or, or_false, false_or, true_and, false_and]
        by_cases k2 : g 3 n = 2
        · by_cases k8 : g 8 n ≤ v2
          · simp (disch := first | omega | decide) only [lt1, nnMl, nnMr, nnAl, nnAr, nnA, nnM, nnB, nnT, nnP, nnE, nnEl, nnEr, nnL, nnLl, nnLr, nnQ, nnQr, nnN, Nat.add_zero, if_false, if_true, Option.bind_some, not_true, not_false_iff, not_true_eq_false, not_false_eq_true, eq_self, Nat.not_lt_zero, z10, z01, or_true, true_or, or_false, false_or, true_and, false_and, k2, k8, forall_const]
          · simp (disch := first | omega | decide) only [lt1, nnMl, nnMr, nnAl, nnAr, nnA, nnM, nnB, nnT, nnP, nnE, nnEl, nnEr, nnL, nnLl, nnLr, nnQ, nnQr, nnN, Nat.add_zero, if_false, if_true, Option.bind_some, not_true, not_false_iff, not_true_eq_false, not_false_eq_true, eq_self, Nat.not_lt_zero, z10, z01, or_true, true_or, or_false, false_or, true_and, false_and, k2, k8, forall_const]
        · simp (disch := first | omega | decide) only [lt1, nnMl, nnMr, nnAl, nnAr, nnA, nnM, nnB, nnT, nnP, nnE, nnEl, nnEr, nnL, nnLl, nnLr, nnQ, nnQr, nnN, Nat.add_zero, if_false, if_true, Option.bind_some, not_true, not_false_iff, not_true_eq_false, not_false_eq_true, eq_self, Nat.not_lt_zero, z10, z01, or_true, true_or, or_false, false_or, true_and, false_and, k2, false_implies]
    have hm : ∀ g1 : Sg, g1 216 = g 216 → m_size (nn n) v2 g1 = some (if b = 1 ∧ (g 3 n = 2 → g 8 n ≤ v2) then (1, up2 g1 216 (140 + 5 * n + 1) v2) else (0, g1)) := by
      intro g1 e1
      obtain ⟨b', hb', f1', f2', -⟩ := fits_eq (g 3 n) v2 g g1
      have eb : b' = b := by rw [f1] at f1'; exact (Option.some.inj f1').symm
      subst eb
      unfold m_size m_size_44 m_isOf_k0
      rw [isOf_y (N := N) (by rw [e1]; exact h.net.aN) (by omega) hn, nodeOf0_y h10, nodeOf4_y h10, e1, e3, e8]
      simp (disch := first | omega | decide) only [lt1, nnMl, nnMr, nnAl, nnAr, nnA, nnM, nnB, nnT, nnP, nnE, nnEl, nnEr, nnL, nnLl, nnLr, nnQ, nnQr, nnN, Nat.add_zero, if_false, if_true, Option.bind_some, not_true, not_false_iff, not_true_eq_false, not_false_eq_true, eq_self, Nat.not_lt_zero, z10, z01, or_true, true_or, or_false, false_or, true_and, false_and, f2']
      have h2 : 140 + 5 * n + 1 < 20360 := by omega
      rcases hb with rfl | rfl
      · simp (disch := first | omega | decide) only [lt1, nnMl, nnMr, nnAl, nnAr, nnA, nnM, nnB, nnT, nnP, nnE, nnEl, nnEr, nnL, nnLl, nnLr, nnQ, nnQr, nnN, Nat.add_zero, if_false, if_true, Option.bind_some, not_true, not_false_iff, not_true_eq_false, not_false_eq_true, eq_self, Nat.not_lt_zero, z10, z01, or_true, true_or, or_false, false_or, true_and, false_and]
      · simp (disch := first | omega | decide) only [lt1, nnMl, nnMr, nnAl, nnAr, nnA, nnM, nnB, nnT, nnP, nnE, nnEl, nnEr, nnL, nnLl, nnLr, nnQ, nnQr, nnN, Nat.add_zero, if_false, if_true, Option.bind_some, not_true, not_false_iff, not_true_eq_false, not_false_eq_true, eq_self, Nat.not_lt_zero, z10, z01, or_true, true_or, or_false, false_or, true_and, false_and]
        by_cases k2 : g 3 n = 2
        · by_cases k8 : g 8 n ≤ v2
          · simp (disch := first | omega | decide) only [lt1, nnMl, nnMr, nnAl, nnAr, nnA, nnM, nnB, nnT, nnP, nnE, nnEl, nnEr, nnL, nnLl, nnLr, nnQ, nnQr, nnN, Nat.add_zero, if_false, if_true, Option.bind_some, not_true, not_false_iff, not_true_eq_false, not_false_eq_true, eq_self, Nat.not_lt_zero, z10, z01, or_true, true_or, or_false, false_or, true_and, false_and, k2, k8, forall_const, h2]
          · simp (disch := first | omega | decide) only [lt1, nnMl, nnMr, nnAl, nnAr, nnA, nnM, nnB, nnT, nnP, nnE, nnEl, nnEr, nnL, nnLl, nnLr, nnQ, nnQr, nnN, Nat.add_zero, if_false, if_true, Option.bind_some, not_true, not_false_iff, not_true_eq_false, not_false_eq_true, eq_self, Nat.not_lt_zero, z10, z01, or_true, true_or, or_false, false_or, true_and, false_and, k2, k8, forall_const]
        · simp (disch := first | omega | decide) only [lt1, nnMl, nnMr, nnAl, nnAr, nnA, nnM, nnB, nnT, nnP, nnE, nnEl, nnEr, nnL, nnLl, nnLr, nnQ, nnQr, nnN, Nat.add_zero, if_false, if_true, Option.bind_some, not_true, not_false_iff, not_true_eq_false, not_false_eq_true, eq_self, Nat.not_lt_zero, z10, z01, or_true, true_or, or_false, false_or, true_and, false_and, k2, false_implies, h2]
    by_cases hc : b = 1 ∧ (g 3 n = 2 → g 8 n ≤ v2)
    · have hm1 := hm (up2 g 4 n v2) (u2n (by decide))
      rw [if_pos hc] at hx hm1
      refine ⟨0, 0, 1, _, _, hx, hm1, ?_⟩
      refine RR.put hT hR ⟨N, C, Q, D, T, L, G, ?_⟩ (fun i h1 h2 => by rw [u2n (by omega), u2n (by omega)]) (fun j hj => by rw [u2e, up1_ne (by omega), u2n (by decide)]) (by rw [u2n (by decide), u2n (by decide)]) (fun i h1 h2 => by rw [u2n (by omega), u2n (by omega)])
      have eC : ∀ i, i ≠ 4 → i ≠ 216 → up2 (up2 g 4 n v2) 216 (140 + 5 * n + 1) v2 i = g i := fun i h1 h2 => by rw [u2n h2, u2n h1]
      have eA : up2 (up2 g 4 n v2) 216 (140 + 5 * n + 1) v2 216 = up1 (g 216) (140 + 5 * n + 1) v2 := by rw [u2e, u2n (by decide)]
      rw [eA]
      exact ⟨h.net.sizeU h10 (fun i h1 h2 h3 => eC i h3 (by omega)) (by rw [u2n (by decide), u2e]) (fun j _ h2 => up1_ne h2) up1_eq,
        h.rig.fr (fun i h1 h2 => eC i (by omega) (by omega)) (fun j hj => up1_ne (by unfold iRig at hj; omega)),
        h.law.fr (fun i h1 h2 => eC i (by omega) (by omega)) (fun j hj => up1_ne (by unfold iLaw at hj; omega)),
        h.gau.fr (fun i h1 h2 => eC i (by omega) (by omega)) (fun j hj => up1_ne (by unfold iGau at hj; omega))⟩
    · have hm1 := hm g rfl
      rw [if_neg hc] at hx hm1
      exact ⟨0, 0, 0, _, _, hx, hm1, hR⟩
  · refine ⟨0, 0, 0, g, g, ?_, ?_, hR⟩
    · unfold x_size
      rw [hasNode_n h.net hn]
      rfl
    · unfold m_size
      rw [isOf0_n h.net hn]
      rfl
end SA
end
section
theorem RR.wr {TS : Sg → Prop} (hT : TSf TS) {g : Sg} {cc i j : Nat} {v w : Int32} (h : RR TS g) (h1 : 2 ≤ cc) (h2 : cc ≤ 46) (hj : j < 5090) (hn : RT (up2 (up2 g cc i v) 216 j w) (up1 (g 216) j w)) : RR TS (up2 (up2 g cc i v) 216 j w) := by
  have eA : up2 (up2 g cc i v) 216 j w 216 = up1 (g 216) j w := by rw [u2e, u2n (by omega)]
  exact RR.put hT h (by rw [eA]; exact hn) (fun i h1 h2 => by rw [u2n (by omega), u2n (by omega)]) (fun j hj => by rw [u2e, up1_ne (by omega), u2n (by omega)]) (by rw [u2n (by decide), u2n (by omega)]) (fun i h1 h2 => by rw [u2n (by omega), u2n (by omega)])
theorem wrC {g : Sg} {cc i j k : Nat} {v w : Int32} (h1 : k ≠ cc) (h2 : k ≠ 216) : up2 (up2 g cc i v) 216 j w k = g k := by rw [u2n h2, u2n h1]
theorem wrE {g : Sg} {cc i j : Nat} {v w : Int32} (h : cc ≠ 216) : up2 (up2 g cc i v) 216 j w cc = up1 (g cc) i v := by rw [u2n h, u2e]
theorem RRig.homeU {c c' : Sg} {a a' : Nat → Int32} {D N Q n : Nat} {v : Int32} (h : RRig c a D N Q) (hv : v = -1 ∨ ∃ k, k < N ∧ v = nn k) (hc : ∀ i, 22 ≤ i → i ≤ 30 → i ≠ 23 → c' i = c i) (h3 : c' 23 = up1 (c 23) n v) (ha : ∀ j, iRig j → j ≠ 30 + n → a' j = a j) (ha1 : a' (30 + n) = v) (hn : n < 8) : RRig c' a' D N Q := by
  have e22 := hc 22 (by decide) (by decide) (by decide)
  have e24 := hc 24 (by decide) (by decide) (by decide)
  have e25 := hc 25 (by decide) (by decide) (by decide)
  have e26 := hc 26 (by decide) (by decide) (by decide)
  have e27 := hc 27 (by decide) (by decide) (by decide)
  have e28 := hc 28 (by decide) (by decide) (by decide)
  have e29 := hc 29 (by decide) (by decide) (by decide)
  have e30 := hc 30 (by decide) (by decide) (by decide)
  have A := ha
  apply RRig.mk
  case hD => exact h.hD
  case cD => rw [e22]; exact h.cD
  case aD => rw [A _ (by unfold iRig; omega) (by omega)]; exact h.aD
  case home => 
    intro m hm
    rw [h3]
    by_cases e : m = n
    · subst e; rw [ha1, up1_eq]
    · rw [up1_ne e, A _ (by unfold iRig; omega) (by omega)]; exact h.home m hm
  case homeV => 
    intro m hm
    rw [h3]
    by_cases e : m = n
    · subst e; rw [up1_eq]; exact hv
    · rw [up1_ne e]; exact h.homeV m hm
  case d0 => intro n hn; rw [A _ (by unfold iRig; omega) (by omega), e24]; exact h.d0 n hn
  case d1 => intro n hn; rw [A _ (by unfold iRig; omega) (by omega), e25]; exact h.d1 n hn
  case d2 => intro n hn; rw [A _ (by unfold iRig; omega) (by omega), e26]; exact h.d2 n hn
  case d3 => intro n hn; rw [A _ (by unfold iRig; omega) (by omega), e27]; exact h.d3 n hn
  case d4 => intro n hn; rw [A _ (by unfold iRig; omega) (by omega), e28]; exact h.d4 n hn
  case d5 => intro n hn; rw [A _ (by unfold iRig; omega) (by omega), e29]; exact h.d5 n hn
  case dFL => rw [e24, e25]; exact h.dFL
  case dW => rw [e26]; exact h.dW
  case dS => rw [e27]; exact h.dS
  case dY => rw [e28]; exact h.dY
  case dV => rw [e29]; exact h.dV
  case cR => rw [e22]; exact h.cR
  case aR => rw [A _ (by unfold iRig; omega) (by omega)]; exact h.aR
  case runs => intro n hn; rw [A _ (by unfold iRig; omega) (by omega), e30]; exact h.runs n hn
  case runV => rw [e30]; exact h.runV
theorem RRig.voidU {c c' : Sg} {a a' : Nat → Int32} {D N Q n : Nat} {v : Int32} (h : RRig c a D N Q) (hv : ∃ z, z ≤ Q / 96 ∧ v = nn z) (hc : ∀ i, 22 ≤ i → i ≤ 30 → i ≠ 29 → c' i = c i) (h3 : c' 29 = up1 (c 29) n v) (ha : ∀ j, iRig j → j ≠ 550 + 6 * n + 5 → a' j = a j) (ha1 : a' (550 + 6 * n + 5) = v) (hn : n < 120) : RRig c' a' D N Q := by
  have e22 := hc 22 (by decide) (by decide) (by decide)
  have e23 := hc 23 (by decide) (by decide) (by decide)
  have e24 := hc 24 (by decide) (by decide) (by decide)
  have e25 := hc 25 (by decide) (by decide) (by decide)
  have e26 := hc 26 (by decide) (by decide) (by decide)
  have e27 := hc 27 (by decide) (by decide) (by decide)
  have e28 := hc 28 (by decide) (by decide) (by decide)
  have e30 := hc 30 (by decide) (by decide) (by decide)
  have A := ha
  apply RRig.mk
  case hD => exact h.hD
  case cD => rw [e22]; exact h.cD
  case aD => rw [A _ (by unfold iRig; omega) (by omega)]; exact h.aD
  case home => intro n hn; rw [A _ (by unfold iRig; omega) (by omega), e23]; exact h.home n hn
  case homeV => rw [e23]; exact h.homeV
  case d0 => intro n hn; rw [A _ (by unfold iRig; omega) (by omega), e24]; exact h.d0 n hn
  case d1 => intro n hn; rw [A _ (by unfold iRig; omega) (by omega), e25]; exact h.d1 n hn
  case d2 => intro n hn; rw [A _ (by unfold iRig; omega) (by omega), e26]; exact h.d2 n hn
  case d3 => intro n hn; rw [A _ (by unfold iRig; omega) (by omega), e27]; exact h.d3 n hn
  case d4 => intro n hn; rw [A _ (by unfold iRig; omega) (by omega), e28]; exact h.d4 n hn
  case d5 => 
    intro m hm
    rw [h3]
    by_cases e : m = n
    · subst e; rw [ha1, up1_eq]
    · rw [up1_ne e, A _ (by unfold iRig; omega) (by omega)]; exact h.d5 m hm
  case dFL => rw [e24, e25]; exact h.dFL
  case dW => rw [e26]; exact h.dW
  case dS => rw [e27]; exact h.dS
  case dY => rw [e28]; exact h.dY
  case dV => 
    intro m hm
    rw [h3]
    by_cases e : m = n
    · subst e; rw [up1_eq]; exact Or.inr hv
    · rw [up1_ne e]; exact h.dV m hm
  case cR => rw [e22]; exact h.cR
  case aR => rw [A _ (by unfold iRig; omega) (by omega)]; exact h.aR
  case runs => intro n hn; rw [A _ (by unfold iRig; omega) (by omega), e30]; exact h.runs n hn
  case runV => rw [e30]; exact h.runV
theorem RLaw.lenU {c c' : Sg} {a a' : Nat → Int32} {T T' L : Nat} (h : RLaw c a T L) (hT' : T' ≤ 500) (hc : ∀ i, 31 ≤ i → i ≤ 41 → i ≠ 31 → c' i = c i) (h3 : c' 31 = up1 (c 31) 0 (nn T')) (ha : ∀ j, iLaw j → j ≠ 7 → a' j = a j) (ha1 : a' 7 = nn T') : RLaw c' a' T' L := by
  have e32 := hc 32 (by decide) (by decide) (by decide)
  have e33 := hc 33 (by decide) (by decide) (by decide)
  have e34 := hc 34 (by decide) (by decide) (by decide)
  have e35 := hc 35 (by decide) (by decide) (by decide)
  have e36 := hc 36 (by decide) (by decide) (by decide)
  have e37 := hc 37 (by decide) (by decide) (by decide)
  have e38 := hc 38 (by decide) (by decide) (by decide)
  have e39 := hc 39 (by decide) (by decide) (by decide)
  have e40 := hc 40 (by decide) (by decide) (by decide)
  have e41 := hc 41 (by decide) (by decide) (by decide)
  have A := ha
  apply RLaw.mk
  case hT => exact hT'
  case hL => exact h.hL
  case cT => rw [h3, up1_eq]
  case aT => exact ha1
  case tape => intro n hn; rw [A _ (by unfold iLaw; omega) (by omega), e32]; exact h.tape n hn
  case tapeV => rw [e32]; exact h.tapeV
  case fk => rw [h3, up1_ne (by decide), A _ (by unfold iLaw; omega) (by omega)]; exact h.fk
  case fp => rw [h3, up1_ne (by decide), A _ (by unfold iLaw; omega) (by omega)]; exact h.fp
  case dry => intro n hn; rw [A _ (by unfold iLaw; omega) (by omega), e41]; exact h.dry n hn
  case dryV => rw [e41]; exact h.dryV
  case cL => rw [e33]; exact h.cL
  case aL => rw [A _ (by unfold iLaw; omega) (by omega)]; exact h.aL
  case ln => 
    intro k hk
    have := h.hL
    rw [e34, e35, e36, e37, e38, e39, e40]
    exact tLine_fr (fun j hj => A _ (by unfold iLaw; omega) (by omega)) (h.ln k hk)
theorem RLaw.dryU {c c' : Sg} {a a' : Nat → Int32} {T L n : Nat} {v : Int32} (h : RLaw c a T L) (hv : v = 0 ∨ v = 1) (hn : n < 100) (hc : ∀ i, 31 ≤ i → i ≤ 41 → i ≠ 41 → c' i = c i) (h3 : c' 41 = up1 (c 41) n v) (ha : ∀ j, iLaw j → j ≠ 40 + n → a' j = a j) (ha1 : a' (40 + n) = v) : RLaw c' a' T L := by
  have e31 := hc 31 (by decide) (by decide) (by decide)
  have e32 := hc 32 (by decide) (by decide) (by decide)
  have e33 := hc 33 (by decide) (by decide) (by decide)
  have e34 := hc 34 (by decide) (by decide) (by decide)
  have e35 := hc 35 (by decide) (by decide) (by decide)
  have e36 := hc 36 (by decide) (by decide) (by decide)
  have e37 := hc 37 (by decide) (by decide) (by decide)
  have e38 := hc 38 (by decide) (by decide) (by decide)
  have e39 := hc 39 (by decide) (by decide) (by decide)
  have e40 := hc 40 (by decide) (by decide) (by decide)
  have A := ha
  apply RLaw.mk
  case hT => exact h.hT
  case hL => exact h.hL
  case cT => rw [e31]; exact h.cT
  case aT => rw [A _ (by unfold iLaw; omega) (by omega)]; exact h.aT
  case tape => intro n hn; rw [A _ (by unfold iLaw; omega) (by omega), e32]; exact h.tape n hn
  case tapeV => rw [e32]; exact h.tapeV
  case fk => rw [A _ (by unfold iLaw; omega) (by omega), e31]; exact h.fk
  case fp => rw [A _ (by unfold iLaw; omega) (by omega), e31]; exact h.fp
  case dry => 
    intro m hm
    rw [h3]
    by_cases e : m = n
    · subst e; rw [ha1, up1_eq]
    · rw [up1_ne e, A _ (by unfold iLaw; omega) (by omega)]; exact h.dry m hm
  case dryV => 
    intro m hm
    rw [h3]
    by_cases e : m = n
    · subst e; rw [up1_eq]; exact hv
    · rw [up1_ne e]; exact h.dryV m hm
  case cL => rw [e33]; exact h.cL
  case aL => rw [A _ (by unfold iLaw; omega) (by omega)]; exact h.aL
  case ln => 
    intro k hk
    have := h.hL
    rw [e34, e35, e36, e37, e38, e39, e40]
    exact tLine_fr (fun j hj => A _ (by unfold iLaw; omega) (by omega)) (h.ln k hk)
section SB
theorem hasDeed_y {g : Sg} {D N Q n : Nat} (h : RRig g (g 216) D N Q) (hn : n < D) : rights_hasDeed (nn n) g = some 1 := by
  have := h.hD
  have h2 : ¬ D ≤ n := by omega
  have h3 : ¬ 120 ≤ n := by omega
  unfold rights_hasDeed
  rw [h.cD]
  simp (disch := first | omega | decide) only [lt1, nnMl, nnMr, nnAl, nnAr, nnA, nnM, nnB, nnT, nnP, nnE, nnEl, nnEr, nnL, nnLl, nnLr, nnQ, nnQr, nnN, Nat.add_zero, if_false, if_true, Option.bind_some, not_true, not_false_iff, not_true_eq_false, not_false_eq_true, eq_self, Nat.not_lt_zero, z10, z01, or_true, true_or, or_false, false_or, true_and, false_and, h2, h3]
theorem hasDeed_n {g : Sg} {D N Q : Nat} {v : Int32} (h : RRig g (g 216) D N Q) (hn : ¬ ∃ n, n < D ∧ v = nn n) : rights_hasDeed v g = some 0 := by
  have := h.hD
  unfold rights_hasDeed
  rw [h.cD]
  by_cases h1 : v < 0
  · rw [if_pos h1]
  · rw [if_neg h1]
    by_cases h2 : nn D ≤ v
    · rw [if_pos h2]
    · exact absurd ((rg (by omega)).mp ⟨h1, Int32.not_le.mp h2⟩) hn
theorem isOf2_y {g : Sg} {D N Q n : Nat} {w : Int32} (hw : w = nn D) (hD : D ≤ 120) (hn : n < D) : m_isIn (nn n) 0 (w - 1) g = some 1 := isOf_y hw (by omega) hn
theorem today_x {g : Sg} {N C Q : Nat} (h : RNet g (g 216) N C Q) : x_today g = some (nn (Q / 96)) := by
  have := h.hQ
  unfold x_today
  rw [h.cQ, show (96 : Int32) = nn 96 from rfl, nnD (by omega) (by decide)]
theorem today_m {g : Sg} {Q : Nat} (h : g 216 3 = nn Q) (hQ : Q ≤ 9599) : m_today g = some (nn (Q / 96)) := by
  unfold m_today
  rw [h, show (96 : Int32) = nn 96 from rfl, nnD (by omega) (by decide)]
theorem sim_fault {TS : Sg → Prop} : Sim_fault (RR TS) := by
  intro v g hR
  obtain ⟨N, C, Q, D, T, L, G, h⟩ := hR.now
  by_cases h0 : v = 0
  · subst h0
    refine ⟨0, 0, g 31 2, g, g, rfl, ?_, hR, rfl, rfl⟩
    show some (g 216 8) = _
    rw [h.law.fk]
  · by_cases h1 : v = 1
    · subst h1
      refine ⟨0, 0, g 31 3, g, g, rfl, ?_, hR, rfl, rfl⟩
      show some (g 216 9) = _
      rw [h.law.fp]
    · refine ⟨0, 0, -1, g, g, ?_, ?_, hR, rfl, rfl⟩
      · unfold x_fault
        rw [if_neg h0, if_neg h1]
      · unfold m_fault
        rw [if_pos h0, if_pos h1]
theorem sim_ran {TS : Sg → Prop} : Sim_ran (RR TS) := by
  intro v g hR
  obtain ⟨N, C, Q, D, T, L, G, h⟩ := hR.now
  have hQ := h.net.hQ
  by_cases hn : ∃ n, n < (Q + 3) / 4 ∧ v = nn n
  · obtain ⟨n, hn, rfl⟩ := hn
    have h1 : n < 2400 := by omega
    have h2 : 1870 + n < 20360 := by omega
    refine ⟨0, 0, g 30 n, g, g, ?_, ?_, hR, rfl, rfl⟩
    · unfold x_ran
      rw [show x_within (nn n) 0 (g 22 8 - 1) g = some 1 from isOf_y (g := g) h.rig.cR (by omega) hn]
      simp (disch := first | omega | decide) only [lt1, nnMl, nnMr, nnAl, nnAr, nnA, nnM, nnB, nnT, nnP, nnE, nnEl, nnEr, nnL, nnLl, nnLr, nnQ, nnQr, nnN, Nat.add_zero, if_false, if_true, Option.bind_some, not_true, not_false_iff, not_true_eq_false, not_false_eq_true, eq_self, Nat.not_lt_zero, z10, z01, or_true, true_or, or_false, false_or, true_and, false_and, h1]
    · unfold m_ran m_isOf_k6
      rw [isOf_y h.rig.aR (by omega) hn]
      simp (disch := first | omega | decide) only [lt1, nnMl, nnMr, nnAl, nnAr, nnA, nnM, nnB, nnT, nnP, nnE, nnEl, nnEr, nnL, nnLl, nnLr, nnQ, nnQr, nnN, Nat.add_zero, if_false, if_true, Option.bind_some, not_true, not_false_iff, not_true_eq_false, not_false_eq_true, eq_self, Nat.not_lt_zero, z10, z01, or_true, true_or, or_false, false_or, true_and, false_and, h2, h.rig.runs n h1]
  · refine ⟨0, 0, -2, g, g, ?_, ?_, hR, rfl, rfl⟩
    · unfold x_ran
      rw [show x_within v 0 (g 22 8 - 1) g = some 0 from isOf_n (g := g) h.rig.cR (by omega) hn]
      rfl
    · unfold m_ran m_isOf_k6
      rw [isOf_n h.rig.aR (by omega) hn]
      rfl
theorem deedOf_y {g : Sg} {n k : Nat} (hn : n < 120) (hk : k < 6) : m_deedOf (nn n) (nn k) g = some (g 216 (550 + 6 * n + k)) := by
  have h2 : 550 + 6 * n + k < 20360 := by omega
  unfold m_deedOf
  simp (disch := first | omega | decide) only [lt1, nnMl, nnMr, nnAl, nnAr, nnA, nnM, nnB, nnT, nnP, nnE, nnEl, nnEr, nnL, nnLl, nnLr, nnQ, nnQr, nnN, Nat.add_zero, if_false, if_true, Option.bind_some, not_true, not_false_iff, not_true_eq_false, not_false_eq_true, eq_self, Nat.not_lt_zero, z10, z01, or_true, true_or, or_false, false_or, true_and, false_and, h2]
theorem sim_written {TS : Sg → Prop} : Sim_written (RR TS) := by
  intro v1 v2 g hR
  obtain ⟨N, C, Q, D, T, L, G, h⟩ := hR.now
  have hD := h.rig.hD
  by_cases hn : ∃ n, n < D ∧ v1 = nn n
  · obtain ⟨n, hn, rfl⟩ := hn
    have h10 : n < 120 := by omega
    by_cases hk : ∃ k, k < 6 ∧ v2 = nn k
    · obtain ⟨k, hk, rfl⟩ := hk
      refine ⟨0, 0, g 216 (550 + 6 * n + k), g, g, ?_, ?_, hR, rfl, rfl⟩
      · unfold x_written
        rw [hasDeed_y h.rig hn]
        have c4 : k = 0 ∨ k = 1 ∨ k = 2 ∨ k = 3 ∨ k = 4 ∨ k = 5 := by omega
        rcases c4 with rfl | rfl | rfl | rfl | rfl | rfl
        · show (if inb (nn n) 120 = true then some (g 24 (nn n).toNatClampNeg) else none) = _; simp (disch := first | omega | decide) only [lt1, nnMl, nnMr, nnAl, nnAr, nnA, nnM, nnB, nnT, nnP, nnE, nnEl, nnEr, nnL, nnLl, nnLr, nnQ, nnQr, nnN, Nat.add_zero, if_false, if_true, Option.bind_some, not_true, not_false_iff, not_true_eq_false, not_false_eq_true, eq_self, Nat.not_lt_zero, z10, z01, or_true, true_or, or_false, false_or, true_and, false_and, h10, ← h.rig.d0]
        · show (if inb (nn n) 120 = true then some (g 25 (nn n).toNatClampNeg) else none) = _; simp (disch := first | omega | decide) only [lt1, nnMl, nnMr, nnAl, nnAr, nnA, nnM, nnB, nnT, nnP, nnE, nnEl, nnEr, nnL, nnLl, nnLr, nnQ, nnQr, nnN, Nat.add_zero, if_false, if_true, Option.bind_some, not_true, not_false_iff, not_true_eq_false, not_false_eq_true, eq_self, Nat.not_lt_zero, z10, z01, or_true, true_or, or_false, false_or, true_and, false_and, h10, ← h.rig.d1]
        · show (if inb (nn n) 120 = true then some (g 26 (nn n).toNatClampNeg) else none) = _; simp (disch := first | omega | decide) only [lt1, nnMl, nnMr, nnAl, nnAr, nnA, nnM, nnB, nnT, nnP, nnE, nnEl, nnEr, nnL, nnLl, nnLr, nnQ, nnQr, nnN, Nat.add_zero, if_false, if_true, Option.bind_some, not_true, not_false_iff, not_true_eq_false, not_false_eq_true, eq_self, Nat.not_lt_zero, z10, z01, or_true, true_or, or_false, false_or, true_and, false_and, h10, ← h.rig.d2]
        · show (if inb (nn n) 120 = true then some (g 27 (nn n).toNatClampNeg) else none) = _; simp (disch := first | omega | decide) only [lt1, nnMl, nnMr, nnAl, nnAr, nnA, nnM, nnB, nnT, nnP, nnE, nnEl, nnEr, nnL, nnLl, nnLr, nnQ, nnQr, nnN, Nat.add_zero, if_false, if_true, Option.bind_some, not_true, not_false_iff, not_true_eq_false, not_false_eq_true, eq_self, Nat.not_lt_zero, z10, z01, or_true, true_or, or_false, false_or, true_and, false_and, h10, ← h.rig.d3]
        · show (if inb (nn n) 120 = true then some (g 28 (nn n).toNatClampNeg) else none) = _; simp (disch := first | omega | decide) only [lt1, nnMl, nnMr, nnAl, nnAr, nnA, nnM, nnB, nnT, nnP, nnE, nnEl, nnEr, nnL, nnLl, nnLr, nnQ, nnQr, nnN, Nat.add_zero, if_false, if_true, Option.bind_some, not_true, not_false_iff, not_true_eq_false, not_false_eq_true, eq_self, Nat.not_lt_zero, z10, z01, or_true, true_or, or_false, false_or, true_and, false_and, h10, ← h.rig.d4]
        · show (if inb (nn n) 120 = true then some (g 29 (nn n).toNatClampNeg) else none) = _; simp (disch := first | omega | decide) only [lt1, nnMl, nnMr, nnAl, nnAr, nnA, nnM, nnB, nnT, nnP, nnE, nnEl, nnEr, nnL, nnLl, nnLr, nnQ, nnQr, nnN, Nat.add_zero, if_false, if_true, Option.bind_some, not_true, not_false_iff, not_true_eq_false, not_false_eq_true, eq_self, Nat.not_lt_zero, z10, z01, or_true, true_or, or_false, false_or, true_and, false_and, h10, ← h.rig.d5]
      · unfold m_written m_isOf_k2
        rw [isOf_y h.rig.aD (by omega) hn, isInK_y (w := 5) (K := 5) rfl (by decide) (by omega), deedOf_y h10 hk]
        simp (disch := first | omega | decide) only [lt1, nnMl, nnMr, nnAl, nnAr, nnA, nnM, nnB, nnT, nnP, nnE, nnEl, nnEr, nnL, nnLl, nnLr, nnQ, nnQr, nnN, Nat.add_zero, if_false, if_true, Option.bind_some, not_true, not_false_iff, not_true_eq_false, not_false_eq_true, eq_self, Nat.not_lt_zero, z10, z01, or_true, true_or, or_false, false_or, true_and, false_and]
    · have q : ∀ j, j < 6 → ¬ v2 = nn j := fun j hj e => hk ⟨j, hj, e⟩
      refine ⟨0, 0, -2, g, g, ?_, ?_, hR, rfl, rfl⟩
      · unfold x_written
        rw [hasDeed_y h.rig hn]
        show (if v2 = 0 then _ else _) = _
        rw [if_neg (show ¬ v2 = 0 from q 0 (by decide)), if_neg (show ¬ v2 = 1 from q 1 (by decide)), if_neg (show ¬ v2 = 2 from q 2 (by decide)), if_neg (show ¬ v2 = 3 from q 3 (by decide)), if_neg (show ¬ v2 = 4 from q 4 (by decide)), if_neg (show ¬ v2 = 5 from q 5 (by decide))]
      · unfold m_written m_isOf_k2
        rw [isOf_y h.rig.aD (by omega) hn, isInK_n (w := 5) (K := 5) rfl (by decide) hk]
        simp (disch := first | omega | decide) only [lt1, nnMl, nnMr, nnAl, nnAr, nnA, nnM, nnB, nnT, nnP, nnE, nnEl, nnEr, nnL, nnLl, nnLr, nnQ, nnQr, nnN, Nat.add_zero, if_false, if_true, Option.bind_some, not_true, not_false_iff, not_true_eq_false, not_false_eq_true, eq_self, Nat.not_lt_zero, z10, z01, or_true, true_or, or_false, false_or, true_and, false_and]
  · refine ⟨0, 0, -2, g, g, ?_, ?_, hR, rfl, rfl⟩
    · unfold x_written
      rw [hasDeed_n h.rig hn]
      simp (disch := first | omega | decide) only [lt1, nnMl, nnMr, nnAl, nnAr, nnA, nnM, nnB, nnT, nnP, nnE, nnEl, nnEr, nnL, nnLl, nnLr, nnQ, nnQr, nnN, Nat.add_zero, if_false, if_true, Option.bind_some, not_true, not_false_iff, not_true_eq_false, not_false_eq_true, eq_self, Nat.not_lt_zero, z10, z01, or_true, true_or, or_false, false_or, true_and, false_and]
    · unfold m_written m_isOf_k2
      rw [isOf_n h.rig.aD (by omega) hn]
      simp (disch := first | omega | decide) only [lt1, nnMl, nnMr, nnAl, nnAr, nnA, nnM, nnB, nnT, nnP, nnE, nnEl, nnEr, nnL, nnLl, nnLr, nnQ, nnQr, nnN, Nat.add_zero, if_false, if_true, Option.bind_some, not_true, not_false_iff, not_true_eq_false, not_false_eq_true, eq_self, Nat.not_lt_zero, z10, z01, or_true, true_or, or_false, false_or, true_and, false_and]
theorem sim_end {TS : Sg → Prop} (hT : TSf TS) : Sim_end (RR TS) := by
  intro v g hR
  obtain ⟨N, C, Q, D, T, L, G, h⟩ := hR.now
  have hT5 := h.law.hT
  by_cases hn : ∃ n, n < T + 1 ∧ v = nn n
  · obtain ⟨n, hn, rfl⟩ := hn
    have h9 : n ≤ T := by omega
    refine ⟨0, 0, nn n, up2 g 31 0 (nn n), up2 (up2 g 31 0 (nn n)) 216 7 (nn n), ?_, ?_, ?_⟩
    · unfold x_end
      rw [wthK_y h.law.cT (by omega) h9]
      simp (disch := first | omega | decide) only [lt1, nnMl, nnMr, nnAl, nnAr, nnA, nnM, nnB, nnT, nnP, nnE, nnEl, nnEr, nnL, nnLl, nnLr, nnQ, nnQr, nnN, Nat.add_zero, if_false, if_true, Option.bind_some, not_true, not_false_iff, not_true_eq_false, not_false_eq_true, eq_self, Nat.not_lt_zero, z10, z01, or_true, true_or, or_false, false_or, true_and, false_and]
    · unfold m_end
      rw [u2n (by decide), h.law.aT]
      simp (disch := first | omega | decide) only [lt1, nnMl, nnMr, nnAl, nnAr, nnA, nnM, nnB, nnT, nnP, nnE, nnEl, nnEr, nnL, nnLl, nnLr, nnQ, nnQr, nnN, Nat.add_zero, if_false, if_true, Option.bind_some, not_true, not_false_iff, not_true_eq_false, not_false_eq_true, eq_self, Nat.not_lt_zero, z10, z01, or_true, true_or, or_false, false_or, true_and, false_and, h9]
    · exact RR.wr hT hR (by decide) (by decide) (by decide) ⟨N, C, Q, D, n, L, G, h.net.fr (fun i h1 h2 => wrC (by omega) (by omega)) (fun j hj => up1_ne (by unfold iNet at hj; omega)), h.rig.fr (fun i h1 h2 => wrC (by omega) (by omega)) (fun j hj => up1_ne (by unfold iRig at hj; omega)), h.law.lenU (by omega) (fun i h1 h2 h3 => wrC h3 (by omega)) (wrE (by decide)) (fun j _ h2 => up1_ne h2) up1_eq, h.gau.fr (fun i h1 h2 => wrC (by omega) (by omega)) (fun j hj => up1_ne (by unfold iGau at hj; omega))⟩
  · refine ⟨0, 0, -1, g, g, ?_, ?_, hR⟩
    · unfold x_end
      rw [wthK_n h.law.cT (by omega) hn]
      simp (disch := first | omega | decide) only [lt1, nnMl, nnMr, nnAl, nnAr, nnA, nnM, nnB, nnT, nnP, nnE, nnEl, nnEr, nnL, nnLl, nnLr, nnQ, nnQr, nnN, Nat.add_zero, if_false, if_true, Option.bind_some, not_true, not_false_iff, not_true_eq_false, not_false_eq_true, eq_self, Nat.not_lt_zero, z10, z01, or_true, true_or, or_false, false_or, true_and, false_and]
    · unfold m_end
      rw [h.law.aT]
      by_cases h0 : v < 0
      · rw [if_pos h0]
      · rw [if_neg h0, if_neg]
        exact fun e => hn ((rgK (by omega)).mp ⟨Int32.not_lt.mp h0, e⟩)
theorem sim_dry {TS : Sg → Prop} (hT : TSf TS) : Sim_dry (RR TS) := by
  intro v1 v2 g hR hb
  obtain ⟨N, C, Q, D, T, L, G, h⟩ := hR.now
  by_cases hn : ∃ n, n < 100 ∧ v1 = nn n
  · obtain ⟨n, hn, rfl⟩ := hn
    have h1 := h.law.dry n hn
    have h2 : 40 + n < 20360 := by omega
    have hx : x_dry (nn n) v2 g = some (if g 41 n = v2 then (0, g) else (1, up2 g 41 n v2)) := by
      unfold x_dry x_isWeek
      rw [wthK_y (w := 99) (K := 99) rfl (by decide) (by omega)]
      simp (disch := first | omega | decide) only [lt1, nnMl, nnMr, nnAl, nnAr, nnA, nnM, nnB, nnT, nnP, nnE, nnEl, nnEr, nnL, nnLl, nnLr, nnQ, nnQr, nnN, Nat.add_zero, if_false, if_true, Option.bind_some, not_true, not_false_iff, not_true_eq_false, not_false_eq_true, eq_self, Nat.not_lt_zero, z10, z01, or_true, true_or, or_false, false_or, true_and, false_and, hn]
      by_cases e : g 41 n = v2
      · rw [if_neg (Decidable.not_not.mpr e), if_pos e]
      · rw [if_pos e, if_neg e]
        rcases hb with rfl | rfl <;> rfl
    have hm : ∀ g1 : Sg, g1 216 = g 216 → m_dry (nn n) v2 g1 = some (if g 41 n = v2 then (0, g1) else (1, up2 g1 216 (40 + n) v2)) := by
      intro g1 e1
      unfold m_dry m_dry_28
      rw [isInK_y (w := 99) (K := 99) rfl (by decide) (by omega), e1]
      simp (disch := first | omega | decide) only [lt1, nnMl, nnMr, nnAl, nnAr, nnA, nnM, nnB, nnT, nnP, nnE, nnEl, nnEr, nnL, nnLl, nnLr, nnQ, nnQr, nnN, Nat.add_zero, if_false, if_true, Option.bind_some, not_true, not_false_iff, not_true_eq_false, not_false_eq_true, eq_self, Nat.not_lt_zero, z10, z01, or_true, true_or, or_false, false_or, true_and, false_and, h2, h1]
      rcases h.law.dryV n hn with e | e <;> rcases hb with rfl | rfl <;> rw [e] <;> rfl
    by_cases e : g 41 n = v2
    · have hm1 := hm g rfl
      rw [if_pos e] at hx hm1
      exact ⟨0, 0, 0, _, _, hx, hm1, hR⟩
    · have hm1 := hm (up2 g 41 n v2) (u2n (by decide))
      rw [if_neg e] at hx hm1
      exact ⟨0, 0, 1, _, _, hx, hm1, RR.wr hT hR (by decide) (by decide) (by omega) ⟨N, C, Q, D, T, L, G, h.net.fr (fun i h1 h2 => wrC (by omega) (by omega)) (fun j hj => up1_ne (by unfold iNet at hj; omega)), h.rig.fr (fun i h1 h2 => wrC (by omega) (by omega)) (fun j hj => up1_ne (by unfold iRig at hj; omega)), h.law.dryU hb hn (fun i h1 h2 h3 => wrC h3 (by omega)) (wrE (by decide)) (fun j _ h2 => up1_ne h2) up1_eq, h.gau.fr (fun i h1 h2 => wrC (by omega) (by omega)) (fun j hj => up1_ne (by unfold iGau at hj; omega))⟩⟩
  · refine ⟨0, 0, 0, g, g, ?_, ?_, hR⟩
    · unfold x_dry x_isWeek
      rw [wthK_n (w := 99) (K := 99) rfl (by decide) hn]
      simp (disch := first | omega | decide) only [lt1, nnMl, nnMr, nnAl, nnAr, nnA, nnM, nnB, nnT, nnP, nnE, nnEl, nnEr, nnL, nnLl, nnLr, nnQ, nnQr, nnN, Nat.add_zero, if_false, if_true, Option.bind_some, not_true, not_false_iff, not_true_eq_false, not_false_eq_true, eq_self, Nat.not_lt_zero, z10, z01, or_true, true_or, or_false, false_or, true_and, false_and]
    · unfold m_dry
      rw [isInK_n (w := 99) (K := 99) rfl (by decide) hn]
      simp (disch := first | omega | decide) only [lt1, nnMl, nnMr, nnAl, nnAr, nnA, nnM, nnB, nnT, nnP, nnE, nnEl, nnEr, nnL, nnLl, nnLr, nnQ, nnQr, nnN, Nat.add_zero, if_false, if_true, Option.bind_some, not_true, not_false_iff, not_true_eq_false, not_false_eq_true, eq_self, Nat.not_lt_zero, z10, z01, or_true, true_or, or_false, false_or, true_and, false_and]
end SB
end
section
section SC
theorem holder_y {g : Sg} {n : Nat} (h : n < 8) : x_isHolder (nn n) g = some 1 := by
  unfold x_isHolder
  rw [wthK_y (w := 7) (K := 7) rfl (by decide) (by omega)]
  simp (disch := first | omega | decide) only [lt1, nnMl, nnMr, nnAl, nnAr, nnA, nnM, nnB, nnT, nnP, nnE, nnEl, nnEr, nnL, nnLl, nnLr, nnQ, nnQr, nnN, Nat.add_zero, if_false, if_true, Option.bind_some, not_true, not_false_iff, not_true_eq_false, not_false_eq_true, eq_self, Nat.not_lt_zero, z10, z01, or_true, true_or, or_false, false_or, true_and, false_and]
theorem holder_n {g : Sg} {v : Int32} (h : ¬ ∃ n, n < 8 ∧ v = nn n) : x_isHolder v g = some 0 := by
  unfold x_isHolder
  rw [wthK_n (w := 7) (K := 7) rfl (by decide) h]
  simp (disch := first | omega | decide) only [lt1, nnMl, nnMr, nnAl, nnAr, nnA, nnM, nnB, nnT, nnP, nnE, nnEl, nnEr, nnL, nnLl, nnLr, nnQ, nnQr, nnN, Nat.add_zero, if_false, if_true, Option.bind_some, not_true, not_false_iff, not_true_eq_false, not_false_eq_true, eq_self, Nat.not_lt_zero, z10, z01, or_true, true_or, or_false, false_or, true_and, false_and]
theorem isField_y {g : Sg} {N C Q n : Nat} (h : RNet g (g 216) N C Q) (hn : n < N) (hk : g 3 n = 4) : net_isField (nn n) g = some 1 := by
  have := h.hN
  have h1 : n < 10 := by omega
  unfold net_isField
  rw [hasNode_y h hn]
  simp (disch := first | omega | decide) only [lt1, nnMl, nnMr, nnAl, nnAr, nnA, nnM, nnB, nnT, nnP, nnE, nnEl, nnEr, nnL, nnLl, nnLr, nnQ, nnQr, nnN, Nat.add_zero, if_false, if_true, Option.bind_some, not_true, not_false_iff, not_true_eq_false, not_false_eq_true, eq_self, Nat.not_lt_zero, z10, z01, or_true, true_or, or_false, false_or, true_and, false_and, h1, hk]
theorem isField_k {g : Sg} {N C Q n : Nat} (h : RNet g (g 216) N C Q) (hn : n < N) (hk : ¬ g 3 n = 4) : net_isField (nn n) g = some 0 := by
  have := h.hN
  have h1 : n < 10 := by omega
  unfold net_isField
  rw [hasNode_y h hn]
  simp (disch := first | omega | decide) only [lt1, nnMl, nnMr, nnAl, nnAr, nnA, nnM, nnB, nnT, nnP, nnE, nnEl, nnEr, nnL, nnLl, nnLr, nnQ, nnQr, nnN, Nat.add_zero, if_false, if_true, Option.bind_some, not_true, not_false_iff, not_true_eq_false, not_false_eq_true, eq_self, Nat.not_lt_zero, z10, z01, or_true, true_or, or_false, false_or, true_and, false_and, h1, hk]
theorem isField_n {g : Sg} {N C Q : Nat} {v : Int32} (h : RNet g (g 216) N C Q) (hn : ¬ ∃ n, n < N ∧ v = nn n) : net_isField v g = some 0 := by
  unfold net_isField
  rw [hasNode_n h hn]
  simp (disch := first | omega | decide) only [lt1, nnMl, nnMr, nnAl, nnAr, nnA, nnM, nnB, nnT, nnP, nnE, nnEl, nnEr, nnL, nnLl, nnLr, nnQ, nnQr, nnN, Nat.add_zero, if_false, if_true, Option.bind_some, not_true, not_false_iff, not_true_eq_false, not_false_eq_true, eq_self, Nat.not_lt_zero, z10, z01, or_true, true_or, or_false, false_or, true_and, false_and]
theorem chanOf0_y {g : Sg} {n : Nat} (hn : n < 14) : m_channelOf_k0 (nn n) g = some (g 216 (190 + 7 * n)) := by
  have h2 : 190 + 7 * n < 20360 := by omega
  unfold m_channelOf_k0
  simp (disch := first | omega | decide) only [lt1, nnMl, nnMr, nnAl, nnAr, nnA, nnM, nnB, nnT, nnP, nnE, nnEl, nnEr, nnL, nnLl, nnLr, nnQ, nnQr, nnN, Nat.add_zero, if_false, if_true, Option.bind_some, not_true, not_false_iff, not_true_eq_false, not_false_eq_true, eq_self, Nat.not_lt_zero, z10, z01, or_true, true_or, or_false, false_or, true_and, false_and, h2]
theorem sim_field {TS : Sg → Prop} (hT : TSf TS) : Sim_field (RR TS) := by
  intro v1 v2 g hR
  obtain ⟨N, C, Q, D, T, L, G, h⟩ := hR.now
  have hN := h.net.hN
  by_cases hn : ∃ n, n < 8 ∧ v1 = nn n
  · obtain ⟨n, hn, rfl⟩ := hn
    have h2 : 30 + n < 20360 := by omega
    have key : (v2 = -1 ∨ ∃ k, k < N ∧ v2 = nn k) → x_field (nn n) v2 g = some (1, up2 g 23 n v2) → m_field (nn n) v2 (up2 g 23 n v2) = some (1, up2 (up2 g 23 n v2) 216 (30 + n) v2) → ∃ (F1 F2 : Nat) (a : Int32) (g1 g2 : Sg), x_field (nn n) v2 g = some (a, g1) ∧ m_field (nn n) v2 g1 = some (a, g2) ∧ RR TS g2 := fun hv hx hm =>
      ⟨0, 0, 1, _, _, hx, hm, RR.wr hT hR (by decide) (by decide) (by omega) ⟨N, C, Q, D, T, L, G, h.net.fr (fun i h1 h2 => wrC (by omega) (by omega)) (fun j hj => up1_ne (by unfold iNet at hj; omega)), h.rig.homeU hv (fun i h1 h2 h3 => wrC h3 (by omega)) (wrE (by decide)) (fun j _ h2 => up1_ne h2) up1_eq hn, h.law.fr (fun i h1 h2 => wrC (by omega) (by omega)) (fun j hj => up1_ne (by unfold iLaw at hj; omega)), h.gau.fr (fun i h1 h2 => wrC (by omega) (by omega)) (fun j hj => up1_ne (by unfold iGau at hj; omega))⟩⟩
    by_cases e : v2 = -1
    · subst e
      refine key (Or.inl rfl) ?_ ?_
      · unfold x_field x_field_28
        rw [holder_y hn]
        simp (disch := first | omega | decide) only [lt1, nnMl, nnMr, nnAl, nnAr, nnA, nnM, nnB, nnT, nnP, nnE, nnEl, nnEr, nnL, nnLl, nnLr, nnQ, nnQr, nnN, Nat.add_zero, if_false, if_true, Option.bind_some, not_true, not_false_iff, not_true_eq_false, not_false_eq_true, eq_self, Nat.not_lt_zero, z10, z01, or_true, true_or, or_false, false_or, true_and, false_and, hn]
      · unfold m_field m_field_36
        rw [isInK_y (w := 7) (K := 7) rfl (by decide) (by omega)]
        simp (disch := first | omega | decide) only [lt1, nnMl, nnMr, nnAl, nnAr, nnA, nnM, nnB, nnT, nnP, nnE, nnEl, nnEr, nnL, nnLl, nnLr, nnQ, nnQr, nnN, Nat.add_zero, if_false, if_true, Option.bind_some, not_true, not_false_iff, not_true_eq_false, not_false_eq_true, eq_self, Nat.not_lt_zero, z10, z01, or_true, true_or, or_false, false_or, true_and, false_and, h2]
    · by_cases hk : ∃ k, k < N ∧ v2 = nn k
      · obtain ⟨k, hk, rfl⟩ := hk
        have h10 : k < 10 := by omega
        by_cases k4 : g 3 k = 4
        · refine key (Or.inr ⟨k, hk, rfl⟩) ?_ ?_
          · unfold x_field x_field_28
            rw [holder_y hn, isField_y h.net hk k4]
            simp (disch := first | omega | decide) only [lt1, nnMl, nnMr, nnAl, nnAr, nnA, nnM, nnB, nnT, nnP, nnE, nnEl, nnEr, nnL, nnLl, nnLr, nnQ, nnQr, nnN, Nat.add_zero, if_false, if_true, Option.bind_some, not_true, not_false_iff, not_true_eq_false, not_false_eq_true, eq_self, Nat.not_lt_zero, z10, z01, or_true, true_or, or_false, false_or, true_and, false_and, hn]
          · unfold m_field m_field_36 m_isOf_k0
            rw [isInK_y (w := 7) (K := 7) rfl (by decide) (by omega), isOf_y (N := N) (by rw [u2n (by decide)]; exact h.net.aN) (by omega) hk, nodeOf0_y h10, u2n (by decide), h.net.kind k h10]
            simp (disch := first | omega | decide) only [lt1, nnMl, nnMr, nnAl, nnAr, nnA, nnM, nnB, nnT, nnP, nnE, nnEl, nnEr, nnL, nnLl, nnLr, nnQ, nnQr, nnN, Nat.add_zero, if_false, if_true, Option.bind_some, not_true, not_false_iff, not_true_eq_false, not_false_eq_true, eq_self, Nat.not_lt_zero, z10, z01, or_true, true_or, or_false, false_or, true_and, false_and, h2, k4]
        · refine ⟨0, 0, 0, g, g, ?_, ?_, hR⟩
          · unfold x_field
            rw [holder_y hn, isField_k h.net hk k4]
            simp (disch := first | omega | decide) only [lt1, nnMl, nnMr, nnAl, nnAr, nnA, nnM, nnB, nnT, nnP, nnE, nnEl, nnEr, nnL, nnLl, nnLr, nnQ, nnQr, nnN, Nat.add_zero, if_false, if_true, Option.bind_some, not_true, not_false_iff, not_true_eq_false, not_false_eq_true, eq_self, Nat.not_lt_zero, z10, z01, or_true, true_or, or_false, false_or, true_and, false_and]
          · unfold m_field
            rw [isInK_y (w := 7) (K := 7) rfl (by decide) (by omega), isOf0_y h.net hk, nodeOf0_y h10, h.net.kind k h10]
            simp (disch := first | omega | decide) only [lt1, nnMl, nnMr, nnAl, nnAr, nnA, nnM, nnB, nnT, nnP, nnE, nnEl, nnEr, nnL, nnLl, nnLr, nnQ, nnQr, nnN, Nat.add_zero, if_false, if_true, Option.bind_some, not_true, not_false_iff, not_true_eq_false, not_false_eq_true, eq_self, Nat.not_lt_zero, z10, z01, or_true, true_or, or_false, false_or, true_and, false_and, k4]
      · refine ⟨0, 0, 0, g, g, ?_, ?_, hR⟩
        · unfold x_field
          rw [holder_y hn, isField_n h.net hk]
          simp (disch := first | omega | decide) only [lt1, nnMl, nnMr, nnAl, nnAr, nnA, nnM, nnB, nnT, nnP, nnE, nnEl, nnEr, nnL, nnLl, nnLr, nnQ, nnQr, nnN, Nat.add_zero, if_false, if_true, Option.bind_some, not_true, not_false_iff, not_true_eq_false, not_false_eq_true, eq_self, Nat.not_lt_zero, z10, z01, or_true, true_or, or_false, false_or, true_and, false_and, e]
        · unfold m_field
          rw [isInK_y (w := 7) (K := 7) rfl (by decide) (by omega), isOf0_n h.net hk]
          simp (disch := first | omega | decide) only [lt1, nnMl, nnMr, nnAl, nnAr, nnA, nnM, nnB, nnT, nnP, nnE, nnEl, nnEr, nnL, nnLl, nnLr, nnQ, nnQr, nnN, Nat.add_zero, if_false, if_true, Option.bind_some, not_true, not_false_iff, not_true_eq_false, not_false_eq_true, eq_self, Nat.not_lt_zero, z10, z01, or_true, true_or, or_false, false_or, true_and, false_and, e]
  · refine ⟨0, 0, 0, g, g, ?_, ?_, hR⟩
    · unfold x_field
      rw [holder_n hn]
      simp (disch := first | omega | decide) only [lt1, nnMl, nnMr, nnAl, nnAr, nnA, nnM, nnB, nnT, nnP, nnE, nnEl, nnEr, nnL, nnLl, nnLr, nnQ, nnQr, nnN, Nat.add_zero, if_false, if_true, Option.bind_some, not_true, not_false_iff, not_true_eq_false, not_false_eq_true, eq_self, Nat.not_lt_zero, z10, z01, or_true, true_or, or_false, false_or, true_and, false_and]
    · unfold m_field
      rw [isInK_n (w := 7) (K := 7) rfl (by decide) hn]
      simp (disch := first | omega | decide) only [lt1, nnMl, nnMr, nnAl, nnAr, nnA, nnM, nnB, nnT, nnP, nnE, nnEl, nnEr, nnL, nnLl, nnLr, nnQ, nnQr, nnN, Nat.add_zero, if_false, if_true, Option.bind_some, not_true, not_false_iff, not_true_eq_false, not_false_eq_true, eq_self, Nat.not_lt_zero, z10, z01, or_true, true_or, or_false, false_or, true_and, false_and]
theorem sim_open {TS : Sg → Prop} (hT : TSf TS) : Sim_open (RR TS) := by
  intro v1 v2 g hR
  obtain ⟨N, C, Q, D, T, L, G, h⟩ := hR.now
  have hN := h.net.hN
  have hC := h.net.hC
  by_cases hn : ∃ n, n < N ∧ v1 = nn n
  · obtain ⟨n, hn, rfl⟩ := hn
    have h10 : n < 10 := by omega
    have h2 : 140 + 5 * n + 2 < 20360 := by omega
    have key : (v2 = -1 ∨ ∃ k, k < C ∧ v2 = nn k ∧ g 9 k = nn n) → x_open (nn n) v2 g = some (1, up2 g 5 n v2) → m_open (nn n) v2 (up2 g 5 n v2) = some (1, up2 (up2 g 5 n v2) 216 (140 + 5 * n + 2) v2) → ∃ (F1 F2 : Nat) (a : Int32) (g1 g2 : Sg), x_open (nn n) v2 g = some (a, g1) ∧ m_open (nn n) v2 g1 = some (a, g2) ∧ RR TS g2 := fun hv hx hm =>
      ⟨0, 0, 1, _, _, hx, hm, RR.wr hT hR (by decide) (by decide) (by omega) ⟨N, C, Q, D, T, L, G, h.net.gateU h10 hv (fun i h1 h2 h3 => wrC h3 (by omega)) (wrE (by decide)) (fun j _ h2 => up1_ne h2) up1_eq, h.rig.fr (fun i h1 h2 => wrC (by omega) (by omega)) (fun j hj => up1_ne (by unfold iRig at hj; omega)), h.law.fr (fun i h1 h2 => wrC (by omega) (by omega)) (fun j hj => up1_ne (by unfold iLaw at hj; omega)), h.gau.fr (fun i h1 h2 => wrC (by omega) (by omega)) (fun j hj => up1_ne (by unfold iGau at hj; omega))⟩⟩
    have a0 : ∀ v, up2 g 5 n v 216 = g 216 := fun v => u2n (by decide)
    by_cases e : v2 = -1
    · subst e
      refine key (Or.inl rfl) ?_ ?_
      · unfold x_open x_open_43
        rw [hasNode_y h.net hn]
        simp (disch := first | omega | decide) only [lt1, nnMl, nnMr, nnAl, nnAr, nnA, nnM, nnB, nnT, nnP, nnE, nnEl, nnEr, nnL, nnLl, nnLr, nnQ, nnQr, nnN, Nat.add_zero, if_false, if_true, Option.bind_some, not_true, not_false_iff, not_true_eq_false, not_false_eq_true, eq_self, Nat.not_lt_zero, z10, z01, or_true, true_or, or_false, false_or, true_and, false_and, h10]
      · unfold m_open m_open_35 m_isOf_k0
        rw [isOf_y (N := N) (by rw [a0]; exact h.net.aN) (by omega) hn]
        simp (disch := first | omega | decide) only [lt1, nnMl, nnMr, nnAl, nnAr, nnA, nnM, nnB, nnT, nnP, nnE, nnEl, nnEr, nnL, nnLl, nnLr, nnQ, nnQr, nnN, Nat.add_zero, if_false, if_true, Option.bind_some, not_true, not_false_iff, not_true_eq_false, not_false_eq_true, eq_self, Nat.not_lt_zero, z10, z01, or_true, true_or, or_false, false_or, true_and, false_and, h2]
    · by_cases hk : ∃ k, k < C ∧ v2 = nn k
      · obtain ⟨k, hk, rfl⟩ := hk
        have h14 : k < 14 := by omega
        by_cases k4 : g 9 k = nn n
        · refine key (Or.inr ⟨k, hk, rfl, k4⟩) ?_ ?_
          · unfold x_open x_open_43
            rw [hasNode_y h.net hn, hasChan_y h.net hk]
            simp (disch := first | omega | decide) only [lt1, nnMl, nnMr, nnAl, nnAr, nnA, nnM, nnB, nnT, nnP, nnE, nnEl, nnEr, nnL, nnLl, nnLr, nnQ, nnQr, nnN, Nat.add_zero, if_false, if_true, Option.bind_some, not_true, not_false_iff, not_true_eq_false, not_false_eq_true, eq_self, Nat.not_lt_zero, z10, z01, or_true, true_or, or_false, false_or, true_and, false_and, h10, h14, k4]
          · unfold m_open m_open_35 m_isOf_k0 m_isOf_k1
            rw [isOf_y (N := N) (by rw [a0]; exact h.net.aN) (by omega) hn, isOf_y (N := C) (by rw [a0]; exact h.net.aC) (by omega) hk, chanOf0_y h14, a0, h.net.frm k h14]
            simp (disch := first | omega | decide) only [lt1, nnMl, nnMr, nnAl, nnAr, nnA, nnM, nnB, nnT, nnP, nnE, nnEl, nnEr, nnL, nnLl, nnLr, nnQ, nnQr, nnN, Nat.add_zero, if_false, if_true, Option.bind_some, not_true, not_false_iff, not_true_eq_false, not_false_eq_true, eq_self, Nat.not_lt_zero, z10, z01, or_true, true_or, or_false, false_or, true_and, false_and, h2, k4]
        · refine ⟨0, 0, 0, g, g, ?_, ?_, hR⟩
          · unfold x_open
            rw [hasNode_y h.net hn, hasChan_y h.net hk]
            simp (disch := first | omega | decide) only [lt1, nnMl, nnMr, nnAl, nnAr, nnA, nnM, nnB, nnT, nnP, nnE, nnEl, nnEr, nnL, nnLl, nnLr, nnQ, nnQr, nnN, Nat.add_zero, if_false, if_true, Option.bind_some, not_true, not_false_iff, not_true_eq_false, not_false_eq_true, eq_self, Nat.not_lt_zero, z10, z01, or_true, true_or, or_false, false_or, true_and, false_and, h14, k4]
          · unfold m_open
            rw [isOf0_y h.net hn, isOf1_y h.net hk, chanOf0_y h14, h.net.frm k h14]
            simp (disch := first | omega | decide) only [lt1, nnMl, nnMr, nnAl, nnAr, nnA, nnM, nnB, nnT, nnP, nnE, nnEl, nnEr, nnL, nnLl, nnLr, nnQ, nnQr, nnN, Nat.add_zero, if_false, if_true, Option.bind_some, not_true, not_false_iff, not_true_eq_false, not_false_eq_true, eq_self, Nat.not_lt_zero, z10, z01, or_true, true_or, or_false, false_or, true_and, false_and, k4]
      · refine ⟨0, 0, 0, g, g, ?_, ?_, hR⟩
        · unfold x_open
          rw [hasNode_y h.net hn, hasChan_n h.net hk]
          simp (disch := first | omega | decide) only [lt1, nnMl, nnMr, nnAl, nnAr, nnA, nnM, nnB, nnT, nnP, nnE, nnEl, nnEr, nnL, nnLl, nnLr, nnQ, nnQr, nnN, Nat.add_zero, if_false, if_true, Option.bind_some, not_true, not_false_iff, not_true_eq_false, not_false_eq_true, eq_self, Nat.not_lt_zero, z10, z01, or_true, true_or, or_false, false_or, true_and, false_and, e]
        · unfold m_open
          rw [isOf0_y h.net hn, isOf1_n h.net hk]
          simp (disch := first | omega | decide) only [lt1, nnMl, nnMr, nnAl, nnAr, nnA, nnM, nnB, nnT, nnP, nnE, nnEl, nnEr, nnL, nnLl, nnLr, nnQ, nnQr, nnN, Nat.add_zero, if_false, if_true, Option.bind_some, not_true, not_false_iff, not_true_eq_false, not_false_eq_true, eq_self, Nat.not_lt_zero, z10, z01, or_true, true_or, or_false, false_or, true_and, false_and, e]
  · refine ⟨0, 0, 0, g, g, ?_, ?_, hR⟩
    · unfold x_open
      rw [hasNode_n h.net hn]
      simp (disch := first | omega | decide) only [lt1, nnMl, nnMr, nnAl, nnAr, nnA, nnM, nnB, nnT, nnP, nnE, nnEl, nnEr, nnL, nnLl, nnLr, nnQ, nnQr, nnN, Nat.add_zero, if_false, if_true, Option.bind_some, not_true, not_false_iff, not_true_eq_false, not_false_eq_true, eq_self, Nat.not_lt_zero, z10, z01, or_true, true_or, or_false, false_or, true_and, false_and]
    · unfold m_open
      rw [isOf0_n h.net hn]
      simp (disch := first | omega | decide) only [lt1, nnMl, nnMr, nnAl, nnAr, nnA, nnM, nnB, nnT, nnP, nnE, nnEl, nnEr, nnL, nnLl, nnLr, nnQ, nnQr, nnN, Nat.add_zero, if_false, if_true, Option.bind_some, not_true, not_false_iff, not_true_eq_false, not_false_eq_true, eq_self, Nat.not_lt_zero, z10, z01, or_true, true_or, or_false, false_or, true_and, false_and]
theorem sim_annul {TS : Sg → Prop} (hT : TSf TS) : Sim_annul (RR TS) := by
  intro v1 g hR
  obtain ⟨N, C, Q, D, T, L, G, h⟩ := hR.now
  have hD := h.rig.hD
  have hQ := h.net.hQ
  by_cases hn : ∃ n, n < D ∧ v1 = nn n
  · obtain ⟨n, hn, rfl⟩ := hn
    have h10 : n < 120 := by omega
    have h2 : 550 + 6 * n + 5 < 20360 := by omega
    rcases h.rig.dV n hn with e | ⟨z, hz, e⟩
    · refine ⟨0, 0, 1, up2 g 29 n (nn (Q / 96)), up2 (up2 g 29 n (nn (Q / 96))) 216 (550 + 6 * n + 5) (nn (Q / 96)), ?_, ?_, ?_⟩
      · unfold x_annul
        rw [hasDeed_y h.rig hn, today_x h.net]
        simp (disch := first | omega | decide) only [lt1, nnMl, nnMr, nnAl, nnAr, nnA, nnM, nnB, nnT, nnP, nnE, nnEl, nnEr, nnL, nnLl, nnLr, nnQ, nnQr, nnN, Nat.add_zero, if_false, if_true, Option.bind_some, not_true, not_false_iff, not_true_eq_false, not_false_eq_true, eq_self, Nat.not_lt_zero, z10, z01, or_true, true_or, or_false, false_or, true_and, false_and, h10, e]
      · have a0 : up2 g 29 n (nn (Q / 96)) 216 = g 216 := u2n (by decide)
        unfold m_annul m_isOf_k2 m_deedOf_k5
        rw [isOf_y (N := D) (by rw [a0]; exact h.rig.aD) (by omega) hn, today_m (Q := Q) (by rw [a0]; exact h.net.aQ) hQ, a0]
        simp (disch := first | omega | decide) only [lt1, nnMl, nnMr, nnAl, nnAr, nnA, nnM, nnB, nnT, nnP, nnE, nnEl, nnEr, nnL, nnLl, nnLr, nnQ, nnQr, nnN, Nat.add_zero, if_false, if_true, Option.bind_some, not_true, not_false_iff, not_true_eq_false, not_false_eq_true, eq_self, Nat.not_lt_zero, z10, z01, or_true, true_or, or_false, false_or, true_and, false_and, h2, h.rig.d5 n h10, e]
        rfl
      · exact RR.wr hT hR (by decide) (by decide) (by omega) ⟨N, C, Q, D, T, L, G, h.net.fr (fun i h1 h2 => wrC (by omega) (by omega)) (fun j hj => up1_ne (by unfold iNet at hj; omega)), h.rig.voidU ⟨Q / 96, Nat.le_refl _, rfl⟩ (fun i h1 h2 h3 => wrC h3 (by omega)) (wrE (by decide)) (fun j _ h2 => up1_ne h2) up1_eq h10, h.law.fr (fun i h1 h2 => wrC (by omega) (by omega)) (fun j hj => up1_ne (by unfold iLaw at hj; omega)), h.gau.fr (fun i h1 h2 => wrC (by omega) (by omega)) (fun j hj => up1_ne (by unfold iGau at hj; omega))⟩
    · have hz9 : z < 2147483648 := by omega
      refine ⟨0, 0, 0, g, g, ?_, ?_, hR⟩
      · unfold x_annul
        rw [hasDeed_y h.rig hn]
        simp (disch := first | omega | decide) only [lt1, nnMl, nnMr, nnAl, nnAr, nnA, nnM, nnB, nnT, nnP, nnE, nnEl, nnEr, nnL, nnLl, nnLr, nnQ, nnQr, nnN, Nat.add_zero, if_false, if_true, Option.bind_some, not_true, not_false_iff, not_true_eq_false, not_false_eq_true, eq_self, Nat.not_lt_zero, z10, z01, or_true, true_or, or_false, false_or, true_and, false_and, h10, e]
      · unfold m_annul m_isOf_k2 m_deedOf_k5
        rw [isOf_y h.rig.aD (by omega) hn]
        simp (disch := first | omega | decide) only [lt1, nnMl, nnMr, nnAl, nnAr, nnA, nnM, nnB, nnT, nnP, nnE, nnEl, nnEr, nnL, nnLl, nnLr, nnQ, nnQr, nnN, Nat.add_zero, if_false, if_true, Option.bind_some, not_true, not_false_iff, not_true_eq_false, not_false_eq_true, eq_self, Nat.not_lt_zero, z10, z01, or_true, true_or, or_false, false_or, true_and, false_and, h2, h.rig.d5 n h10, e]
  · refine ⟨0, 0, 0, g, g, ?_, ?_, hR⟩
    · unfold x_annul
      rw [hasDeed_n h.rig hn]
      simp (disch := first | omega | decide) only [lt1, nnMl, nnMr, nnAl, nnAr, nnA, nnM, nnB, nnT, nnP, nnE, nnEl, nnEr, nnL, nnLl, nnLr, nnQ, nnQr, nnN, Nat.add_zero, if_false, if_true, Option.bind_some, not_true, not_false_iff, not_true_eq_false, not_false_eq_true, eq_self, Nat.not_lt_zero, z10, z01, or_true, true_or, or_false, false_or, true_and, false_and]
    · unfold m_annul m_isOf_k2
      rw [isOf_n h.rig.aD (by omega) hn]
      simp (disch := first | omega | decide) only [lt1, nnMl, nnMr, nnAl, nnAr, nnA, nnM, nnB, nnT, nnP, nnE, nnEl, nnEr, nnL, nnLl, nnLr, nnQ, nnQr, nnN, Nat.add_zero, if_false, if_true, Option.bind_some, not_true, not_false_iff, not_true_eq_false, not_false_eq_true, eq_self, Nat.not_lt_zero, z10, z01, or_true, true_or, or_false, false_or, true_and, false_and]
end SC
end
section
theorem RGau.push {c c' : Sg} {a a' : Nat → Int32} {G C Q : Nat} {v1 v2 v3 v4 : Int32} (h : RGau c a G C Q) (hG : G < 150) (w1 : ∃ k, k < C ∧ v1 = nn k) (w2 : ∃ k, k ≤ Q ∧ v2 = nn k) (w3 : ∃ k, k ≤ 9999 ∧ v3 = nn k) (w4 : ∃ k, k ≤ 9999 ∧ v4 = nn k) (h2 : c' 42 = up1 (c 42) 0 (nn (G + 1))) (h3 : c' 43 = up1 (c 43) G v1) (h4 : c' 44 = up1 (c 44) G v2) (h5 : c' 45 = up1 (c 45) G v3) (h6 : c' 46 = up1 (c 46) G v4) (a5 : a' 5 = nn (G + 1)) (a0 : a' (1270 + 4 * G) = v1) (a1 : a' (1270 + 4 * G + 1) = v2) (a2 : a' (1270 + 4 * G + 2) = v3) (a3 : a' (1270 + 4 * G + 3) = v4) (ha : ∀ j, 1270 ≤ j → j < 1870 → j < 1270 + 4 * G ∨ 1270 + 4 * G + 4 ≤ j → a' j = a j) : RGau c' a' (G + 1) C Q := by
  apply RGau.mk
  case hG => omega
  case cG => rw [h2, up1_eq]
  case aG => exact a5
  case g0 =>
    intro r hr
    rw [h3]
    by_cases e : r = G
    · subst e; rw [up1_eq]; exact a0
    · rw [up1_ne e, ha _ (by omega) (by omega) (by omega)]; exact h.g0 r hr
  case g1 =>
    intro r hr
    rw [h4]
    by_cases e : r = G
    · subst e; rw [up1_eq]; exact a1
    · rw [up1_ne e, ha _ (by omega) (by omega) (by omega)]; exact h.g1 r hr
  case g2 =>
    intro r hr
    rw [h5]
    by_cases e : r = G
    · subst e; rw [up1_eq]; exact a2
    · rw [up1_ne e, ha _ (by omega) (by omega) (by omega)]; exact h.g2 r hr
  case g3 =>
    intro r hr
    rw [h6]
    by_cases e : r = G
    · subst e; rw [up1_eq]; exact a3
    · rw [up1_ne e, ha _ (by omega) (by omega) (by omega)]; exact h.g3 r hr
  case gC =>
    intro r hr
    rw [h3]
    by_cases e : r = G
    · subst e; rw [up1_eq]; exact w1
    · rw [up1_ne e]; exact h.gC r (by omega)
  case gQ =>
    intro r hr
    rw [h4]
    by_cases e : r = G
    · subst e; rw [up1_eq]; exact w2
    · rw [up1_ne e]; exact h.gQ r (by omega)
  case gI =>
    intro r hr
    rw [h5]
    by_cases e : r = G
    · subst e; rw [up1_eq]; exact w3
    · rw [up1_ne e]; exact h.gI r (by omega)
  case gO =>
    intro r hr
    rw [h6]
    by_cases e : r = G
    · subst e; rw [up1_eq]; exact w4
    · rw [up1_ne e]; exact h.gO r (by omega)
theorem chk (v : Int32) (K : Nat) (w : Int32) (hw : w = nn K) (hK : K + 1 < 2147483648) : (∃ n, n ≤ K ∧ v = nn n ∧ (∀ g : Sg, x_within v 0 w g = some 1) ∧ ∀ g : Sg, m_isIn v 0 w g = some 1) ∨ ((∀ g : Sg, x_within v 0 w g = some 0) ∧ ∀ g : Sg, m_isIn v 0 w g = some 0) := by
  by_cases h : ∃ n, n < K + 1 ∧ v = nn n
  · obtain ⟨n, hn, rfl⟩ := h
    exact Or.inl ⟨n, by omega, rfl, fun g => wthK_y hw hK (by omega), fun g => isInK_y hw hK (by omega)⟩
  · exact Or.inr ⟨fun g => wthK_n hw hK h, fun g => isInK_n hw hK h⟩
section SD
theorem sim_gauge {TS : Sg → Prop} (hT : TSf TS) : Sim_gauge (RR TS) := by
  intro v1 v2 v3 v4 g hR
  obtain ⟨N, C, Q, D, T, L, G, h⟩ := hR.now
  have hG := h.gau.hG
  have hQ := h.net.hQ
  have hC := h.net.hC
  by_cases hg : G = 150
  · subst hg
    refine ⟨0, 0, -1, g, g, ?_, ?_, hR⟩
    · unfold x_gauge
      rw [h.gau.cG]
      simp (disch := first | omega | decide) only [lt1, nnMl, nnMr, nnAl, nnAr, nnA, nnM, nnB, nnT, nnP, nnE, nnEl, nnEr, nnL, nnLl, nnLr, nnQ, nnQr, nnN, Nat.add_zero, if_false, if_true, Option.bind_some, not_true, not_false_iff, not_true_eq_false, not_false_eq_true, eq_self, Nat.not_lt_zero, z10, z01, or_true, true_or, or_false, false_or, true_and, false_and, Nat.le_refl]
    · unfold m_gauge
      rw [h.gau.aG]
      simp (disch := first | omega | decide) only [lt1, nnMl, nnMr, nnAl, nnAr, nnA, nnM, nnB, nnT, nnP, nnE, nnEl, nnEr, nnL, nnLl, nnLr, nnQ, nnQr, nnN, Nat.add_zero, if_false, if_true, Option.bind_some, not_true, not_false_iff, not_true_eq_false, not_false_eq_true, eq_self, Nat.not_lt_zero, z10, z01, or_true, true_or, or_false, false_or, true_and, false_and]
  have hg1 : ¬ 150 ≤ G := by omega
  by_cases hn : ∃ n, n < C ∧ v1 = nn n
  · obtain ⟨n, hn, rfl⟩ := hn
    rcases chk v2 Q (nn Q) rfl (by omega) with ⟨q, hq, rfl, x2, m2⟩ | ⟨x2, m2⟩
    · rcases chk v3 9999 9999 rfl (by decide) with ⟨i, hi, rfl, x3, m3⟩ | ⟨x3, m3⟩
      · rcases chk v4 9999 9999 rfl (by decide) with ⟨o, ho, rfl, x4, m4⟩ | ⟨x4, m4⟩
        · have hi5 : G < 150 := by omega
          have j0 : 1270 + 4 * G < 20360 := by omega
          have j1 : 1270 + 4 * G + 1 < 20360 := by omega
          have j2 : 1270 + 4 * G + 2 < 20360 := by omega
          have j3 : 1270 + 4 * G + 3 < 20360 := by omega
          refine ⟨0, 0, nn (G + 1), up2 (up2 (up2 (up2 (up2 g 43 G (nn n)) 44 G (nn q)) 45 G (nn i)) 46 G (nn o)) 42 0 (nn (G + 1)), up2 (up2 (up2 (up2 (up2 (up2 (up2 (up2 (up2 (up2 g 43 G (nn n)) 44 G (nn q)) 45 G (nn i)) 46 G (nn o)) 42 0 (nn (G + 1))) 216 (1270 + 4 * G) (nn n)) 216 (1270 + 4 * G + 1) (nn q)) 216 (1270 + 4 * G + 2) (nn i)) 216 (1270 + 4 * G + 3) (nn o)) 216 5 (nn (G + 1)), ?_, ?_, ?_⟩
          · unfold x_gauge gauges_addRow
            rw [hasChan_y h.net hn, h.net.cQ, h.gau.cG]
            simp (disch := first | omega | decide) only [lt1, nnMl, nnMr, nnAl, nnAr, nnA, nnM, nnB, nnT, nnP, nnE, nnEl, nnEr, nnL, nnLl, nnLr, nnQ, nnQr, nnN, Nat.add_zero, if_false, if_true, Option.bind_some, not_true, not_false_iff, not_true_eq_false, not_false_eq_true, eq_self, Nat.not_lt_zero, z10, z01, or_true, true_or, or_false, false_or, true_and, false_and, hg1, hi5, x2, x3, x4, u2n, u2e, up1_eq, up1_ne, ne_eq, h.gau.cG]
          · unfold m_gauge m_isOf_k1
            simp (disch := first | omega | decide) only [lt1, nnMl, nnMr, nnAl, nnAr, nnA, nnM, nnB, nnT, nnP, nnE, nnEl, nnEr, nnL, nnLl, nnLr, nnQ, nnQr, nnN, Nat.add_zero, if_false, if_true, Option.bind_some, not_true, not_false_iff, not_true_eq_false, not_false_eq_true, eq_self, Nat.not_lt_zero, z10, z01, or_true, true_or, or_false, false_or, true_and, false_and, u2n, u2e, up1_eq, up1_ne, ne_eq, h.gau.aG, hg]
            rw [h.net.aC, isOf_y rfl (by omega) hn, h.net.aQ]
            simp (disch := first | omega | decide) only [lt1, nnMl, nnMr, nnAl, nnAr, nnA, nnM, nnB, nnT, nnP, nnE, nnEl, nnEr, nnL, nnLl, nnLr, nnQ, nnQr, nnN, Nat.add_zero, if_false, if_true, Option.bind_some, not_true, not_false_iff, not_true_eq_false, not_false_eq_true, eq_self, Nat.not_lt_zero, z10, z01, or_true, true_or, or_false, false_or, true_and, false_and, u2n, u2e, up1_eq, up1_ne, ne_eq, h.gau.aG, m2, m3, m4, j0, j1, j2, j3]
          · exact RR.put hT hR ⟨N, C, Q, D, T, L, G + 1, h.net.fr (fun i e1 e2 => by simp (disch := first | omega | decide) only [u2e, u2n, up1_eq, up1_ne, ne_eq]) (fun j hj => by unfold iNet at hj; simp (disch := first | omega | decide) only [u2e, u2n, up1_eq, up1_ne, ne_eq]), h.rig.fr (fun i e1 e2 => by simp (disch := first | omega | decide) only [u2e, u2n, up1_eq, up1_ne, ne_eq]) (fun j hj => by unfold iRig at hj; simp (disch := first | omega | decide) only [u2e, u2n, up1_eq, up1_ne, ne_eq]), h.law.fr (fun i e1 e2 => by simp (disch := first | omega | decide) only [u2e, u2n, up1_eq, up1_ne, ne_eq]) (fun j hj => by unfold iLaw at hj; simp (disch := first | omega | decide) only [u2e, u2n, up1_eq, up1_ne, ne_eq]), h.gau.push hi5 ⟨n, hn, rfl⟩ ⟨q, hq, rfl⟩ ⟨i, hi, rfl⟩ ⟨o, ho, rfl⟩ (by simp (disch := first | omega | decide) only [u2e, u2n, up1_eq, up1_ne, ne_eq]) (by simp (disch := first | omega | decide) only [u2e, u2n, up1_eq, up1_ne, ne_eq]) (by simp (disch := first | omega | decide) only [u2e, u2n, up1_eq, up1_ne, ne_eq]) (by simp (disch := first | omega | decide) only [u2e, u2n, up1_eq, up1_ne, ne_eq]) (by simp (disch := first | omega | decide) only [u2e, u2n, up1_eq, up1_ne, ne_eq]) (by simp (disch := first | omega | decide) only [u2e, u2n, up1_eq, up1_ne, ne_eq]) (by simp (disch := first | omega | decide) only [u2e, u2n, up1_eq, up1_ne, ne_eq]) (by simp (disch := first | omega | decide) only [u2e, u2n, up1_eq, up1_ne, ne_eq]) (by simp (disch := first | omega | decide) only [u2e, u2n, up1_eq, up1_ne, ne_eq]) (by simp (disch := first | omega | decide) only [u2e, u2n, up1_eq, up1_ne, ne_eq]) (fun j e1 e2 e3 => (by simp (disch := first | omega | decide) only [u2e, u2n, up1_eq, up1_ne, ne_eq]))⟩ (fun i e1 e2 => by simp (disch := first | omega | decide) only [u2e, u2n, up1_eq, up1_ne, ne_eq]) (fun j hj => by simp (disch := first | omega | decide) only [u2e, u2n, up1_eq, up1_ne, ne_eq]) (by simp (disch := first | omega | decide) only [u2e, u2n, up1_eq, up1_ne, ne_eq]) (fun i e1 e2 => by simp (disch := first | omega | decide) only [u2e, u2n, up1_eq, up1_ne, ne_eq])
        · refine ⟨0, 0, -1, g, g, ?_, ?_, hR⟩
          · unfold x_gauge
            rw [hasChan_y h.net hn, h.net.cQ, h.gau.cG]
            simp (disch := first | omega | decide) only [lt1, nnMl, nnMr, nnAl, nnAr, nnA, nnM, nnB, nnT, nnP, nnE, nnEl, nnEr, nnL, nnLl, nnLr, nnQ, nnQr, nnN, Nat.add_zero, if_false, if_true, Option.bind_some, not_true, not_false_iff, not_true_eq_false, not_false_eq_true, eq_self, Nat.not_lt_zero, z10, z01, or_true, true_or, or_false, false_or, true_and, false_and, hg1, x2, x3, x4]
          · unfold m_gauge
            rw [isOf1_y h.net hn, h.net.aQ, h.gau.aG]
            simp (disch := first | omega | decide) only [lt1, nnMl, nnMr, nnAl, nnAr, nnA, nnM, nnB, nnT, nnP, nnE, nnEl, nnEr, nnL, nnLl, nnLr, nnQ, nnQr, nnN, Nat.add_zero, if_false, if_true, Option.bind_some, not_true, not_false_iff, not_true_eq_false, not_false_eq_true, eq_self, Nat.not_lt_zero, z10, z01, or_true, true_or, or_false, false_or, true_and, false_and, hg, m2, m3, m4]
      · refine ⟨0, 0, -1, g, g, ?_, ?_, hR⟩
        · unfold x_gauge
          rw [hasChan_y h.net hn, h.net.cQ, h.gau.cG]
          simp (disch := first | omega | decide) only [lt1, nnMl, nnMr, nnAl, nnAr, nnA, nnM, nnB, nnT, nnP, nnE, nnEl, nnEr, nnL, nnLl, nnLr, nnQ, nnQr, nnN, Nat.add_zero, if_false, if_true, Option.bind_some, not_true, not_false_iff, not_true_eq_false, not_false_eq_true, eq_self, Nat.not_lt_zero, z10, z01, or_true, true_or, or_false, false_or, true_and, false_and, hg1, x2, x3]
        · unfold m_gauge
          rw [isOf1_y h.net hn, h.net.aQ, h.gau.aG]
          simp (disch := first | omega | decide) only [lt1, nnMl, nnMr, nnAl, nnAr, nnA, nnM, nnB, nnT, nnP, nnE, nnEl, nnEr, nnL, nnLl, nnLr, nnQ, nnQr, nnN, Nat.add_zero, if_false, if_true, Option.bind_some, not_true, not_false_iff, not_true_eq_false, not_false_eq_true, eq_self, Nat.not_lt_zero, z10, z01, or_true, true_or, or_false, false_or, true_and, false_and, hg, m2, m3]
    · refine ⟨0, 0, -1, g, g, ?_, ?_, hR⟩
      · unfold x_gauge
        rw [hasChan_y h.net hn, h.net.cQ, h.gau.cG]
        simp (disch := first | omega | decide) only [lt1, nnMl, nnMr, nnAl, nnAr, nnA, nnM, nnB, nnT, nnP, nnE, nnEl, nnEr, nnL, nnLl, nnLr, nnQ, nnQr, nnN, Nat.add_zero, if_false, if_true, Option.bind_some, not_true, not_false_iff, not_true_eq_false, not_false_eq_true, eq_self, Nat.not_lt_zero, z10, z01, or_true, true_or, or_false, false_or, true_and, false_and, hg1, x2]
      · unfold m_gauge
        rw [isOf1_y h.net hn, h.net.aQ, h.gau.aG]
        simp (disch := first | omega | decide) only [lt1, nnMl, nnMr, nnAl, nnAr, nnA, nnM, nnB, nnT, nnP, nnE, nnEl, nnEr, nnL, nnLl, nnLr, nnQ, nnQr, nnN, Nat.add_zero, if_false, if_true, Option.bind_some, not_true, not_false_iff, not_true_eq_false, not_false_eq_true, eq_self, Nat.not_lt_zero, z10, z01, or_true, true_or, or_false, false_or, true_and, false_and, hg, m2]
  · refine ⟨0, 0, -1, g, g, ?_, ?_, hR⟩
    · unfold x_gauge
      rw [hasChan_n h.net hn, h.gau.cG]
      simp (disch := first | omega | decide) only [lt1, nnMl, nnMr, nnAl, nnAr, nnA, nnM, nnB, nnT, nnP, nnE, nnEl, nnEr, nnL, nnLl, nnLr, nnQ, nnQr, nnN, Nat.add_zero, if_false, if_true, Option.bind_some, not_true, not_false_iff, not_true_eq_false, not_false_eq_true, eq_self, Nat.not_lt_zero, z10, z01, or_true, true_or, or_false, false_or, true_and, false_and, hg1]
    · unfold m_gauge
      rw [isOf1_n h.net hn, h.gau.aG]
      simp (disch := first | omega | decide) only [lt1, nnMl, nnMr, nnAl, nnAr, nnA, nnM, nnB, nnT, nnP, nnE, nnEl, nnEr, nnL, nnLl, nnLr, nnQ, nnQr, nnN, Nat.add_zero, if_false, if_true, Option.bind_some, not_true, not_false_iff, not_true_eq_false, not_false_eq_true, eq_self, Nat.not_lt_zero, z10, z01, or_true, true_or, or_false, false_or, true_and, false_and, hg]
end SD
end
section
theorem RRig.push {c c' : Sg} {a a' : Nat → Int32} {D N Q : Nat} {v0 v1 v2 v3 v4 v5 : Int32} (h : RRig c a D N Q) (hD : D < 120) (wdFL : ∃ f l, f ≤ l ∧ l < 168 ∧ v0 = nn f ∧ v1 = nn l) (wdW : ∃ w, w < 8 ∧ v2 = nn w) (wdS : ∃ s, s < 100 ∧ v3 = nn s) (wdY : ∃ y, y ≤ Q / 96 ∧ v4 = nn y) (wdV : v5 = -1 ∨ ∃ z, z ≤ Q / 96 ∧ v5 = nn z) (h22 : c' 22 = up1 (c 22) 1 (nn (D + 1))) (h23 : c' 23 = c 23) (h24 : c' 24 = up1 (c 24) D v0) (h25 : c' 25 = up1 (c 25) D v1) (h26 : c' 26 = up1 (c 26) D v2) (h27 : c' 27 = up1 (c 27) D v3) (h28 : c' 28 = up1 (c 28) D v4) (h29 : c' 29 = up1 (c 29) D v5) (h30 : c' 30 = c 30) (a2 : a' 2 = nn (D + 1)) (b0 : a' (550 + 6 * D) = v0) (b1 : a' (550 + 6 * D + 1) = v1) (b2 : a' (550 + 6 * D + 2) = v2) (b3 : a' (550 + 6 * D + 3) = v3) (b4 : a' (550 + 6 * D + 4) = v4) (b5 : a' (550 + 6 * D + 5) = v5) (ha : ∀ j, iRig j → j ≠ 2 → j < 550 + 6 * D ∨ 550 + 6 * D + 6 ≤ j → a' j = a j) : RRig c' a' (D + 1) N Q := by
  apply RRig.mk
  case hD => omega
  case cD => rw [h22, up1_eq]
  case aD => exact a2
  case home => intro n hn; rw [ha _ (by unfold iRig; omega) (by omega) (by omega), h23]; exact h.home n hn
  case homeV => rw [h23]; exact h.homeV
  case d0 => 
    intro n hn
    rw [h24]
    by_cases e : n = D
    · subst e; rw [up1_eq]; exact b0
    · rw [up1_ne e, ha _ (by unfold iRig; omega) (by omega) (by omega)]; exact h.d0 n hn
  case d1 => 
    intro n hn
    rw [h25]
    by_cases e : n = D
    · subst e; rw [up1_eq]; exact b1
    · rw [up1_ne e, ha _ (by unfold iRig; omega) (by omega) (by omega)]; exact h.d1 n hn
  case d2 => 
    intro n hn
    rw [h26]
    by_cases e : n = D
    · subst e; rw [up1_eq]; exact b2
    · rw [up1_ne e, ha _ (by unfold iRig; omega) (by omega) (by omega)]; exact h.d2 n hn
  case d3 => 
    intro n hn
    rw [h27]
    by_cases e : n = D
    · subst e; rw [up1_eq]; exact b3
    · rw [up1_ne e, ha _ (by unfold iRig; omega) (by omega) (by omega)]; exact h.d3 n hn
  case d4 => 
    intro n hn
    rw [h28]
    by_cases e : n = D
    · subst e; rw [up1_eq]; exact b4
    · rw [up1_ne e, ha _ (by unfold iRig; omega) (by omega) (by omega)]; exact h.d4 n hn
  case d5 => 
    intro n hn
    rw [h29]
    by_cases e : n = D
    · subst e; rw [up1_eq]; exact b5
    · rw [up1_ne e, ha _ (by unfold iRig; omega) (by omega) (by omega)]; exact h.d5 n hn
  case dFL => 
    intro n hn
    rw [h24, h25]
    by_cases e : n = D
    · subst e; rw [up1_eq, up1_eq]; exact wdFL
    · rw [up1_ne e, up1_ne e]; exact h.dFL n (by omega)
  case dW => 
    intro n hn
    rw [h26]
    by_cases e : n = D
    · subst e; rw [up1_eq]; exact wdW
    · rw [up1_ne e]; exact h.dW n (by omega)
  case dS => 
    intro n hn
    rw [h27]
    by_cases e : n = D
    · subst e; rw [up1_eq]; exact wdS
    · rw [up1_ne e]; exact h.dS n (by omega)
  case dY => 
    intro n hn
    rw [h28]
    by_cases e : n = D
    · subst e; rw [up1_eq]; exact wdY
    · rw [up1_ne e]; exact h.dY n (by omega)
  case dV => 
    intro n hn
    rw [h29]
    by_cases e : n = D
    · subst e; rw [up1_eq]; exact wdV
    · rw [up1_ne e]; exact h.dV n (by omega)
  case cR => rw [h22, up1_ne (by decide)]; exact h.cR
  case aR => rw [ha _ (by unfold iRig; omega) (by omega) (by omega)]; exact h.aR
  case runs => intro n hn; rw [ha _ (by unfold iRig; omega) (by omega) (by omega), h30]; exact h.runs n hn
  case runV => rw [h30]; exact h.runV
theorem lt1B {α β : Type} {a : α} {k : α → β} : lt1 a k = k a := rfl
theorem nnS1 (a : Nat) : nn (a + 1) - 1 = nn a := nnS (a := a + 1) (b := 1) (by omega)
theorem week_of {v b : Int32} {g : Sg} (hb : b = 0 ∨ b = 1) (x : ∀ g : Sg, x_within v 0 99 g = some b) : x_isWeek v g = some b := by
  unfold x_isWeek
  rw [x, Option.bind_some, if_pos hb]
theorem holder_of {v b : Int32} {g : Sg} (hb : b = 0 ∨ b = 1) (x : ∀ g : Sg, x_within v 0 7 g = some b) : x_isHolder v g = some b := by
  unfold x_isHolder
  rw [x, Option.bind_some, if_pos hb]
theorem chkB (v : Int32) (a K : Nat) (w : Int32) (hw : w = nn K) (hK : K + 1 < 2147483648) (ha : a ≤ K) : (∃ b, a ≤ b ∧ b ≤ K ∧ v = nn b ∧ (∀ g : Sg, x_within v (nn a) w g = some 1) ∧ ∀ g : Sg, m_isIn v (nn a) w g = some 1) ∨ ((∀ g : Sg, x_within v (nn a) w g = some 0) ∧ ∀ g : Sg, m_isIn v (nn a) w g = some 0) := by
  by_cases h : nn a ≤ v ∧ v ≤ w
  · have h0 : (0 : Int32) ≤ nn a := by rw [show (0 : Int32) = nn 0 from rfl, nnE (by decide) (by omega)]; exact Nat.zero_le _
    obtain ⟨b, hb, rfl⟩ := (rgK (K := K) hK).mp ⟨Int32.le_trans h0 h.1, by rw [← hw]; exact h.2⟩
    have h1 := h.1
    rw [nnE (by omega) (by omega)] at h1
    exact Or.inl ⟨b, h1, by omega, rfl, fun g => by rw [within_eq, if_pos h], fun g => by rw [isIn_eq, if_pos h]⟩
  · exact Or.inr ⟨fun g => by rw [within_eq, if_neg h], fun g => by rw [isIn_eq, if_neg h]⟩
section SE
set_option maxHeartbeats 8000000 in
theorem sim_deed {TS : Sg → Prop} (hT : TSf TS) : Sim_deed (RR TS) := by
  intro v1 v2 v3 v4 g hR
  obtain ⟨N, C, Q, D, T, L, G, h⟩ := hR.now
  have hD := h.rig.hD
  have hQ := h.net.hQ
  by_cases hd : D = 120
  · subst hd
    refine ⟨0, 0, -1, g, g, ?_, ?_, hR⟩
    · unfold x_deed
      rw [h.rig.cD, if_pos (show (120 : Int32) ≤ nn 120 by decide)]
    · unfold m_deed
      rw [h.rig.aD, if_pos (show nn 120 = 120 from rfl)]
  have hd1 : ¬ 120 ≤ D := by omega
  rcases chk v1 167 167 rfl (by decide) with ⟨a, ha, rfl, x1, m1⟩ | ⟨x1, m1⟩
  · rcases chk v3 7 7 rfl (by decide) with ⟨w, hw, rfl, x3, m3⟩ | ⟨x3, m3⟩
    · rcases chk v4 99 99 rfl (by decide) with ⟨s, hs, rfl, x4, m4⟩ | ⟨x4, m4⟩
      · rcases chkB v2 a 167 167 rfl (by decide) ha with ⟨b, hab, hb, rfl, x2, m2⟩ | ⟨x2, m2⟩
        · have hi5 : D < 120 := by omega
          have k1 : ¬ D + 1 ≤ D := by omega
          have j0 : 550 + 6 * D < 20360 := by omega
          have j1 : 550 + 6 * D + 1 < 20360 := by omega
          have j2 : 550 + 6 * D + 2 < 20360 := by omega
          have j3 : 550 + 6 * D + 3 < 20360 := by omega
          have j4 : 550 + 6 * D + 4 < 20360 := by omega
          have j5 : 550 + 6 * D + 5 < 20360 := by omega
          have hm : ∀ g1 : Sg, g1 216 = g 216 → m_deed (nn a) (nn b) (nn w) (nn s) g1 = some (nn D, up2 (up2 (up2 (up2 (up2 (up2 (up2 g1 216 (550 + 6 * D) (nn a)) 216 (550 + 6 * D + 1) (nn b)) 216 (550 + 6 * D + 2) (nn w)) 216 (550 + 6 * D + 3) (nn s)) 216 (550 + 6 * D + 4) (nn (Q / 96))) 216 (550 + 6 * D + 5) (-1)) 216 2 (nn (D + 1))) := by
            intro g1 e1
            unfold m_deed m_today
            rw [e1, h.rig.aD, if_neg (show ¬ nn D = 120 from fun e => hd ((nnQ (a := D) (b := 120) (by omega) (by decide)).mp e)), m1, Option.bind_some, if_neg (show ¬ (1 : Int32) = 0 by decide), m2, Option.bind_some, if_neg (show ¬ (1 : Int32) = 0 by decide), m3, Option.bind_some, if_neg (show ¬ (1 : Int32) = 0 by decide), m4, Option.bind_some, if_pos (show ¬ (1 : Int32) = 0 by decide)]
            have e5 : (550 + 6 * nn D : Int32) = nn (550 + 6 * D) := by simp (disch := first | omega | decide) only [lt1, nnMl, nnMr, nnAl, nnAr, nnA, nnM, nnB, nnT, nnP, nnE, nnEl, nnEr, nnL, nnLl, nnLr, nnQ, nnQr, nnN, Nat.add_zero, if_false, if_true, Option.bind_some, not_true, not_false_iff, not_true_eq_false, not_false_eq_true, eq_self, Nat.not_lt_zero, z10, z01, or_true, true_or, or_false, false_or, true_and, false_and]
            rw [e5]
            refine lt1B.trans ?_
            refine (if_pos (by simp (disch := first | omega | decide) only [lt1, nnMl, nnMr, nnAl, nnAr, nnA, nnM, nnB, nnT, nnP, nnE, nnEl, nnEr, nnL, nnLl, nnLr, nnQ, nnQr, nnN, Nat.add_zero, if_false, if_true, Option.bind_some, not_true, not_false_iff, not_true_eq_false, not_false_eq_true, eq_self, Nat.not_lt_zero, z10, z01, or_true, true_or, or_false, false_or, true_and, false_and, j0])).trans ?_
            refine lt1B.trans ?_
            refine (if_pos (by simp (disch := first | omega | decide) only [lt1, nnMl, nnMr, nnAl, nnAr, nnA, nnM, nnB, nnT, nnP, nnE, nnEl, nnEr, nnL, nnLl, nnLr, nnQ, nnQr, nnN, Nat.add_zero, if_false, if_true, Option.bind_some, not_true, not_false_iff, not_true_eq_false, not_false_eq_true, eq_self, Nat.not_lt_zero, z10, z01, or_true, true_or, or_false, false_or, true_and, false_and, j1])).trans ?_
            refine lt1B.trans ?_
            refine (if_pos (by simp (disch := first | omega | decide) only [lt1, nnMl, nnMr, nnAl, nnAr, nnA, nnM, nnB, nnT, nnP, nnE, nnEl, nnEr, nnL, nnLl, nnLr, nnQ, nnQr, nnN, Nat.add_zero, if_false, if_true, Option.bind_some, not_true, not_false_iff, not_true_eq_false, not_false_eq_true, eq_self, Nat.not_lt_zero, z10, z01, or_true, true_or, or_false, false_or, true_and, false_and, j2])).trans ?_
            refine lt1B.trans ?_
            refine (if_pos (by simp (disch := first | omega | decide) only [lt1, nnMl, nnMr, nnAl, nnAr, nnA, nnM, nnB, nnT, nnP, nnE, nnEl, nnEr, nnL, nnLl, nnLr, nnQ, nnQr, nnN, Nat.add_zero, if_false, if_true, Option.bind_some, not_true, not_false_iff, not_true_eq_false, not_false_eq_true, eq_self, Nat.not_lt_zero, z10, z01, or_true, true_or, or_false, false_or, true_and, false_and, j3])).trans ?_
            refine lt1B.trans ?_
            simp (disch := first | omega | decide) only [lt1, nnMl, nnMr, nnAl, nnAr, nnA, nnM, nnB, nnT, nnP, nnE, nnEl, nnEr, nnL, nnLl, nnLr, nnQ, nnQr, nnN, Nat.add_zero, if_false, if_true, Option.bind_some, not_true, not_false_iff, not_true_eq_false, not_false_eq_true, eq_self, Nat.not_lt_zero, z10, z01, or_true, true_or, or_false, false_or, true_and, false_and, j4, j5, nnDr, nnS1, u2n, u2e, up1_eq, up1_ne, ne_eq, nnT, e1, h.rig.aD, h.net.aQ]
          refine ⟨0, 0, nn D, up2 (up2 (up2 (up2 (up2 (up2 (up2 g 24 D (nn a)) 25 D (nn b)) 22 1 (nn (D + 1))) 26 D (nn w)) 27 D (nn s)) 28 D (nn (Q / 96))) 29 D (-1), up2 (up2 (up2 (up2 (up2 (up2 (up2 (up2 (up2 (up2 (up2 (up2 (up2 (up2 g 24 D (nn a)) 25 D (nn b)) 22 1 (nn (D + 1))) 26 D (nn w)) 27 D (nn s)) 28 D (nn (Q / 96))) 29 D (-1)) 216 (550 + 6 * D) (nn a)) 216 (550 + 6 * D + 1) (nn b)) 216 (550 + 6 * D + 2) (nn w)) 216 (550 + 6 * D + 3) (nn s)) 216 (550 + 6 * D + 4) (nn (Q / 96))) 216 (550 + 6 * D + 5) (-1)) 216 2 (nn (D + 1)), ?_, hm _ (by simp (disch := first | omega | decide) only [u2e, u2n, up1_eq, up1_ne, ne_eq]), ?_⟩
          · unfold x_deed rights_addDeed x_isHolder x_isWeek rights_hasDeed x_today
            simp (disch := first | omega | decide) only [lt1, nnMl, nnMr, nnAl, nnAr, nnA, nnM, nnB, nnT, nnP, nnE, nnEl, nnEr, nnL, nnLl, nnLr, nnQ, nnQr, nnN, Nat.add_zero, if_false, if_true, Option.bind_some, not_true, not_false_iff, not_true_eq_false, not_false_eq_true, eq_self, Nat.not_lt_zero, z10, z01, or_true, true_or, or_false, false_or, true_and, false_and, hd1, hi5, x1, x2, x3, x4, k1, nnDr, u2n, u2e, up1_eq, up1_ne, ne_eq, h.rig.cD, h.net.cQ]
          · exact RR.put hT hR ⟨N, C, Q, D + 1, T, L, G, h.net.fr (fun i e1 e2 => by simp (disch := first | omega | decide) only [u2e, u2n, up1_eq, up1_ne, ne_eq]) (fun j hj => by unfold iNet at hj; simp (disch := first | omega | decide) only [u2e, u2n, up1_eq, up1_ne, ne_eq]), h.rig.push hi5 ⟨a, b, hab, by omega, rfl, rfl⟩ ⟨w, by omega, rfl⟩ ⟨s, by omega, rfl⟩ ⟨Q / 96, Nat.le_refl _, rfl⟩ (Or.inl rfl) (by simp (disch := first | omega | decide) only [u2e, u2n, up1_eq, up1_ne, ne_eq]) (by simp (disch := first | omega | decide) only [u2e, u2n, up1_eq, up1_ne, ne_eq]) (by simp (disch := first | omega | decide) only [u2e, u2n, up1_eq, up1_ne, ne_eq]) (by simp (disch := first | omega | decide) only [u2e, u2n, up1_eq, up1_ne, ne_eq]) (by simp (disch := first | omega | decide) only [u2e, u2n, up1_eq, up1_ne, ne_eq]) (by simp (disch := first | omega | decide) only [u2e, u2n, up1_eq, up1_ne, ne_eq]) (by simp (disch := first | omega | decide) only [u2e, u2n, up1_eq, up1_ne, ne_eq]) (by simp (disch := first | omega | decide) only [u2e, u2n, up1_eq, up1_ne, ne_eq]) (by simp (disch := first | omega | decide) only [u2e, u2n, up1_eq, up1_ne, ne_eq]) (by simp (disch := first | omega | decide) only [u2e, u2n, up1_eq, up1_ne, ne_eq]) (by simp (disch := first | omega | decide) only [u2e, u2n, up1_eq, up1_ne, ne_eq]) (by simp (disch := first | omega | decide) only [u2e, u2n, up1_eq, up1_ne, ne_eq]) (by simp (disch := first | omega | decide) only [u2e, u2n, up1_eq, up1_ne, ne_eq]) (by simp (disch := first | omega | decide) only [u2e, u2n, up1_eq, up1_ne, ne_eq]) (by simp (disch := first | omega | decide) only [u2e, u2n, up1_eq, up1_ne, ne_eq]) (by simp (disch := first | omega | decide) only [u2e, u2n, up1_eq, up1_ne, ne_eq]) (fun j hj e2 e3 => by unfold iRig at hj; simp (disch := first | omega | decide) only [u2e, u2n, up1_eq, up1_ne, ne_eq]), h.law.fr (fun i e1 e2 => by simp (disch := first | omega | decide) only [u2e, u2n, up1_eq, up1_ne, ne_eq]) (fun j hj => by unfold iLaw at hj; simp (disch := first | omega | decide) only [u2e, u2n, up1_eq, up1_ne, ne_eq]), h.gau.fr (fun i e1 e2 => by simp (disch := first | omega | decide) only [u2e, u2n, up1_eq, up1_ne, ne_eq]) (fun j hj => by unfold iGau at hj; simp (disch := first | omega | decide) only [u2e, u2n, up1_eq, up1_ne, ne_eq])⟩ (fun i e1 e2 => by simp (disch := first | omega | decide) only [u2e, u2n, up1_eq, up1_ne, ne_eq]) (fun j hj => by simp (disch := first | omega | decide) only [u2e, u2n, up1_eq, up1_ne, ne_eq]) (by simp (disch := first | omega | decide) only [u2e, u2n, up1_eq, up1_ne, ne_eq]) (fun i e1 e2 => by simp (disch := first | omega | decide) only [u2e, u2n, up1_eq, up1_ne, ne_eq])
        · refine ⟨0, 0, -1, g, g, ?_, ?_, hR⟩
          · unfold x_deed x_isHolder x_isWeek
            rw [h.rig.cD]
            simp (disch := first | omega | decide) only [lt1, nnMl, nnMr, nnAl, nnAr, nnA, nnM, nnB, nnT, nnP, nnE, nnEl, nnEr, nnL, nnLl, nnLr, nnQ, nnQr, nnN, Nat.add_zero, if_false, if_true, Option.bind_some, not_true, not_false_iff, not_true_eq_false, not_false_eq_true, eq_self, Nat.not_lt_zero, z10, z01, or_true, true_or, or_false, false_or, true_and, false_and, hd1, x1, x2, x3, x4]
          · unfold m_deed
            rw [h.rig.aD, if_neg (show ¬ nn D = 120 from fun e => hd ((nnQ (a := D) (b := 120) (by omega) (by decide)).mp e)), m1, Option.bind_some, if_neg (show ¬ (1 : Int32) = 0 by decide), m2, Option.bind_some, if_pos rfl]
      · rcases chkB v2 a 167 167 rfl (by decide) ha with ⟨b, hab, hb, rfl, x2, m2⟩ | ⟨x2, m2⟩
        · refine ⟨0, 0, -1, g, g, ?_, ?_, hR⟩
          · unfold x_deed x_isHolder x_isWeek
            rw [h.rig.cD]
            simp (disch := first | omega | decide) only [lt1, nnMl, nnMr, nnAl, nnAr, nnA, nnM, nnB, nnT, nnP, nnE, nnEl, nnEr, nnL, nnLl, nnLr, nnQ, nnQr, nnN, Nat.add_zero, if_false, if_true, Option.bind_some, not_true, not_false_iff, not_true_eq_false, not_false_eq_true, eq_self, Nat.not_lt_zero, z10, z01, or_true, true_or, or_false, false_or, true_and, false_and, hd1, x1, x2, x3, x4]
          · unfold m_deed
            rw [h.rig.aD, if_neg (show ¬ nn D = 120 from fun e => hd ((nnQ (a := D) (b := 120) (by omega) (by decide)).mp e)), m1, Option.bind_some, if_neg (show ¬ (1 : Int32) = 0 by decide), m2, Option.bind_some, if_neg (show ¬ (1 : Int32) = 0 by decide), m3, Option.bind_some, if_neg (show ¬ (1 : Int32) = 0 by decide), m4, Option.bind_some, if_neg (show ¬ ¬ (0 : Int32) = 0 from not_not_intro rfl)]
        · refine ⟨0, 0, -1, g, g, ?_, ?_, hR⟩
          · unfold x_deed x_isHolder x_isWeek
            rw [h.rig.cD]
            simp (disch := first | omega | decide) only [lt1, nnMl, nnMr, nnAl, nnAr, nnA, nnM, nnB, nnT, nnP, nnE, nnEl, nnEr, nnL, nnLl, nnLr, nnQ, nnQr, nnN, Nat.add_zero, if_false, if_true, Option.bind_some, not_true, not_false_iff, not_true_eq_false, not_false_eq_true, eq_self, Nat.not_lt_zero, z10, z01, or_true, true_or, or_false, false_or, true_and, false_and, hd1, x1, x2, x3, x4]
          · unfold m_deed
            rw [h.rig.aD, if_neg (show ¬ nn D = 120 from fun e => hd ((nnQ (a := D) (b := 120) (by omega) (by decide)).mp e)), m1, Option.bind_some, if_neg (show ¬ (1 : Int32) = 0 by decide), m2, Option.bind_some, if_pos rfl]
    · rcases chkB v2 a 167 167 rfl (by decide) ha with ⟨b, hab, hb, rfl, x2, m2⟩ | ⟨x2, m2⟩
      · refine ⟨0, 0, -1, g, g, ?_, ?_, hR⟩
        · unfold x_deed x_isHolder x_isWeek
          rw [h.rig.cD]
          simp (disch := first | omega | decide) only [lt1, nnMl, nnMr, nnAl, nnAr, nnA, nnM, nnB, nnT, nnP, nnE, nnEl, nnEr, nnL, nnLl, nnLr, nnQ, nnQr, nnN, Nat.add_zero, if_false, if_true, Option.bind_some, not_true, not_false_iff, not_true_eq_false, not_false_eq_true, eq_self, Nat.not_lt_zero, z10, z01, or_true, true_or, or_false, false_or, true_and, false_and, hd1, x1, x2, x3]
        · unfold m_deed
          rw [h.rig.aD, if_neg (show ¬ nn D = 120 from fun e => hd ((nnQ (a := D) (b := 120) (by omega) (by decide)).mp e)), m1, Option.bind_some, if_neg (show ¬ (1 : Int32) = 0 by decide), m2, Option.bind_some, if_neg (show ¬ (1 : Int32) = 0 by decide), m3, Option.bind_some, if_pos rfl]
      · refine ⟨0, 0, -1, g, g, ?_, ?_, hR⟩
        · unfold x_deed x_isHolder x_isWeek
          rw [h.rig.cD]
          simp (disch := first | omega | decide) only [lt1, nnMl, nnMr, nnAl, nnAr, nnA, nnM, nnB, nnT, nnP, nnE, nnEl, nnEr, nnL, nnLl, nnLr, nnQ, nnQr, nnN, Nat.add_zero, if_false, if_true, Option.bind_some, not_true, not_false_iff, not_true_eq_false, not_false_eq_true, eq_self, Nat.not_lt_zero, z10, z01, or_true, true_or, or_false, false_or, true_and, false_and, hd1, x1, x2, x3]
        · unfold m_deed
          rw [h.rig.aD, if_neg (show ¬ nn D = 120 from fun e => hd ((nnQ (a := D) (b := 120) (by omega) (by decide)).mp e)), m1, Option.bind_some, if_neg (show ¬ (1 : Int32) = 0 by decide), m2, Option.bind_some, if_pos rfl]
  · rcases chk v3 7 7 rfl (by decide) with ⟨w, hw, rfl, x3, m3⟩ | ⟨x3, m3⟩
    · rcases chk v4 99 99 rfl (by decide) with ⟨s, hs, rfl, x4, m4⟩ | ⟨x4, m4⟩
      · refine ⟨0, 0, -1, g, g, ?_, ?_, hR⟩
        · unfold x_deed
          rw [h.rig.cD, if_neg (show ¬ (120 : Int32) ≤ nn D from fun e => hd1 ((nnE (a := 120) (b := D) (by decide) (by omega)).mp e)), holder_of (Or.inr rfl) x3, Option.bind_some, if_neg (show ¬ (1 : Int32) = 0 by decide), week_of (Or.inr rfl) x4, Option.bind_some, if_pos (show ¬ (1 : Int32) = 0 by decide), x1, Option.bind_some, if_pos rfl]
        · unfold m_deed
          rw [h.rig.aD, if_neg (show ¬ nn D = 120 from fun e => hd ((nnQ (a := D) (b := 120) (by omega) (by decide)).mp e)), m1, Option.bind_some, if_pos rfl]
      · refine ⟨0, 0, -1, g, g, ?_, ?_, hR⟩
        · unfold x_deed
          rw [h.rig.cD, if_neg (show ¬ (120 : Int32) ≤ nn D from fun e => hd1 ((nnE (a := 120) (b := D) (by decide) (by omega)).mp e)), holder_of (Or.inr rfl) x3, Option.bind_some, if_neg (show ¬ (1 : Int32) = 0 by decide), week_of (Or.inl rfl) x4, Option.bind_some, if_neg (show ¬ ¬ (0 : Int32) = 0 from not_not_intro rfl)]
        · unfold m_deed
          rw [h.rig.aD, if_neg (show ¬ nn D = 120 from fun e => hd ((nnQ (a := D) (b := 120) (by omega) (by decide)).mp e)), m1, Option.bind_some, if_pos rfl]
    · refine ⟨0, 0, -1, g, g, ?_, ?_, hR⟩
      · unfold x_deed
        rw [h.rig.cD, if_neg (show ¬ (120 : Int32) ≤ nn D from fun e => hd1 ((nnE (a := 120) (b := D) (by decide) (by omega)).mp e)), holder_of (Or.inl rfl) x3, Option.bind_some, if_pos rfl]
      · unfold m_deed
        rw [h.rig.aD, if_neg (show ¬ nn D = 120 from fun e => hd ((nnQ (a := D) (b := 120) (by omega) (by decide)).mp e)), m1, Option.bind_some, if_pos rfl]
end SE
end
