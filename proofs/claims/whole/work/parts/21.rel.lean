/-! The relation between the class's memory and the model's -/
def sumTo (f : Nat → Int32) : Nat → Int32
  | 0 => 0
  | n + 1 => sumTo f n + f n
def nn (n : Nat) : Int32 := Int32.ofNat n
def RNet (c : Sg) (a : Nat → Int32) (N C Q : Nat) : Prop :=
  (N ≤ 10) ∧
  (C ≤ 14) ∧
  (Q ≤ 9599) ∧
  (c 2 1 = nn N) ∧
  (a 0 = nn N) ∧
  (c 2 6 = nn C) ∧
  (a 1 = nn C) ∧
  (c 2 0 = nn Q) ∧
  (a 3 = nn Q) ∧
  (∀ n, n < 10 → a (140 + 5 * n) = c 3 n) ∧
  (∀ n, n < 10 → a (140 + 5 * n + 1) = c 4 n) ∧
  (∀ n, n < 10 → a (140 + 5 * n + 2) = c 5 n) ∧
  (∀ n, n < 10 → a (140 + 5 * n + 3) = c 7 n) ∧
  (∀ n, n < 10 → a (140 + 5 * n + 4) = c 8 n) ∧
  (∀ j, j < 14 → a (190 + 7 * j) = c 9 j) ∧
  (∀ j, j < 14 → a (190 + 7 * j + 1) = c 10 j) ∧
  (∀ j, j < 14 → a (190 + 7 * j + 2) = c 11 j) ∧
  (∀ j, j < 14 → a (190 + 7 * j + 3) = c 12 j) ∧
  (∀ j, j < 14 → a (190 + 7 * j + 4) = c 13 j) ∧
  (∀ j, j < 14 → a (190 + 7 * j + 5) = c 14 j) ∧
  (∀ j, j < 14 → a (190 + 7 * j + 6) = c 15 j) ∧
  (∀ i, i < 126 → a (290 + i) = c 17 i) ∧
  (∀ i, i < 126 → a (416 + i) = c 18 i) ∧
  (∀ n, n < N → c 5 n = -1 ∨ ∃ k, k < C ∧ c 5 n = nn k ∧ c 9 k = nn n) ∧
  (∀ j, j < C → ∃ f t, f < t ∧ t < N ∧ c 9 j = nn f ∧ c 10 j = nn t) ∧
  (∀ j, j < C → ∃ v, v ≤ 500 ∧ c 11 j = nn v) ∧
  (∀ j, j < C → ∃ v, v ≤ 500 ∧ c 12 j = nn v) ∧
  (∀ j, j < C → ∃ v, v ≤ 8 ∧ c 13 j = nn v) ∧
  (∀ j, j < C → ∃ v, 1 ≤ v ∧ v ≤ 9999 ∧ c 14 j = nn v) ∧
  (∀ j, j < 14 → c 15 j = 0 ∨ c 15 j = 1) ∧
  (∀ n, n < N → ∃ k, k ≤ 4 ∧ c 3 n = nn k) ∧
  (∀ n, N ≤ n → n < 10 → c 7 n = 0 ∧ c 8 n = 0) ∧
  (∀ j, C ≤ j → j < 14 → c 15 j = 0) ∧
  (∀ i, 9 * C ≤ i → i < 126 → c 17 i = 0 ∧ c 18 i = 0) ∧
  (a 10 = sumTo (fun n => if c 3 n = 0 then c 7 n else 0) 10) ∧
  (a 11 = sumTo (fun n => if c 3 n = 4 then c 7 n else 0) 10) ∧
  (a 12 = sumTo (fun n => if c 3 n = 2 then c 7 n else 0) 10) ∧
  (a 13 = sumTo (c 17) 126) ∧
  (a 14 = c 19 0) ∧
  (a 15 = c 20 0) ∧
  (a 16 = c 21 0) ∧
  (a 17 = sumTo (fun n => if c 3 n = 0 then c 8 n else 0) 10) ∧
  (a 18 = sumTo (fun n => if c 3 n = 4 then c 8 n else 0) 10) ∧
  (a 19 = sumTo (fun n => if c 3 n = 2 then c 8 n else 0) 10) ∧
  (a 20 = sumTo (c 18) 126) ∧
  (a 21 = c 19 1) ∧
  (a 22 = c 20 1) ∧
  (a 23 = c 21 1)
theorem RNet.hN {c : Sg} {a : Nat → Int32} {N C Q : Nat} (h : RNet c a N C Q) : N ≤ 10 := h.1
theorem RNet.hC {c : Sg} {a : Nat → Int32} {N C Q : Nat} (h : RNet c a N C Q) : C ≤ 14 := h.2.1
theorem RNet.hQ {c : Sg} {a : Nat → Int32} {N C Q : Nat} (h : RNet c a N C Q) : Q ≤ 9599 := h.2.2.1
theorem RNet.cN {c : Sg} {a : Nat → Int32} {N C Q : Nat} (h : RNet c a N C Q) : c 2 1 = nn N := h.2.2.2.1
theorem RNet.aN {c : Sg} {a : Nat → Int32} {N C Q : Nat} (h : RNet c a N C Q) : a 0 = nn N := h.2.2.2.2.1
theorem RNet.cC {c : Sg} {a : Nat → Int32} {N C Q : Nat} (h : RNet c a N C Q) : c 2 6 = nn C := h.2.2.2.2.2.1
theorem RNet.aC {c : Sg} {a : Nat → Int32} {N C Q : Nat} (h : RNet c a N C Q) : a 1 = nn C := h.2.2.2.2.2.2.1
theorem RNet.cQ {c : Sg} {a : Nat → Int32} {N C Q : Nat} (h : RNet c a N C Q) : c 2 0 = nn Q := h.2.2.2.2.2.2.2.1
theorem RNet.aQ {c : Sg} {a : Nat → Int32} {N C Q : Nat} (h : RNet c a N C Q) : a 3 = nn Q := h.2.2.2.2.2.2.2.2.1
theorem RNet.kind {c : Sg} {a : Nat → Int32} {N C Q : Nat} (h : RNet c a N C Q) : ∀ n, n < 10 → a (140 + 5 * n) = c 3 n := h.2.2.2.2.2.2.2.2.2.1
theorem RNet.size {c : Sg} {a : Nat → Int32} {N C Q : Nat} (h : RNet c a N C Q) : ∀ n, n < 10 → a (140 + 5 * n + 1) = c 4 n := h.2.2.2.2.2.2.2.2.2.2.1
theorem RNet.gate {c : Sg} {a : Nat → Int32} {N C Q : Nat} (h : RNet c a N C Q) : ∀ n, n < 10 → a (140 + 5 * n + 2) = c 5 n := h.2.2.2.2.2.2.2.2.2.2.2.1
theorem RNet.kep0 {c : Sg} {a : Nat → Int32} {N C Q : Nat} (h : RNet c a N C Q) : ∀ n, n < 10 → a (140 + 5 * n + 3) = c 7 n := h.2.2.2.2.2.2.2.2.2.2.2.2.1
theorem RNet.kep1 {c : Sg} {a : Nat → Int32} {N C Q : Nat} (h : RNet c a N C Q) : ∀ n, n < 10 → a (140 + 5 * n + 4) = c 8 n := h.2.2.2.2.2.2.2.2.2.2.2.2.2.1
theorem RNet.frm {c : Sg} {a : Nat → Int32} {N C Q : Nat} (h : RNet c a N C Q) : ∀ j, j < 14 → a (190 + 7 * j) = c 9 j := h.2.2.2.2.2.2.2.2.2.2.2.2.2.2.1
theorem RNet.to {c : Sg} {a : Nat → Int32} {N C Q : Nat} (h : RNet c a N C Q) : ∀ j, j < 14 → a (190 + 7 * j + 1) = c 10 j := h.2.2.2.2.2.2.2.2.2.2.2.2.2.2.2.1
theorem RNet.low {c : Sg} {a : Nat → Int32} {N C Q : Nat} (h : RNet c a N C Q) : ∀ j, j < 14 → a (190 + 7 * j + 2) = c 11 j := h.2.2.2.2.2.2.2.2.2.2.2.2.2.2.2.2.1
theorem RNet.hig {c : Sg} {a : Nat → Int32} {N C Q : Nat} (h : RNet c a N C Q) : ∀ j, j < 14 → a (190 + 7 * j + 3) = c 12 j := h.2.2.2.2.2.2.2.2.2.2.2.2.2.2.2.2.2.1
theorem RNet.trv {c : Sg} {a : Nat → Int32} {N C Q : Nat} (h : RNet c a N C Q) : ∀ j, j < 14 → a (190 + 7 * j + 4) = c 13 j := h.2.2.2.2.2.2.2.2.2.2.2.2.2.2.2.2.2.2.1
theorem RNet.brd {c : Sg} {a : Nat → Int32} {N C Q : Nat} (h : RNet c a N C Q) : ∀ j, j < 14 → a (190 + 7 * j + 5) = c 14 j := h.2.2.2.2.2.2.2.2.2.2.2.2.2.2.2.2.2.2.2.1
theorem RNet.brk {c : Sg} {a : Nat → Int32} {N C Q : Nat} (h : RNet c a N C Q) : ∀ j, j < 14 → a (190 + 7 * j + 6) = c 15 j := h.2.2.2.2.2.2.2.2.2.2.2.2.2.2.2.2.2.2.2.2.1
theorem RNet.way0 {c : Sg} {a : Nat → Int32} {N C Q : Nat} (h : RNet c a N C Q) : ∀ i, i < 126 → a (290 + i) = c 17 i := h.2.2.2.2.2.2.2.2.2.2.2.2.2.2.2.2.2.2.2.2.2.1
theorem RNet.way1 {c : Sg} {a : Nat → Int32} {N C Q : Nat} (h : RNet c a N C Q) : ∀ i, i < 126 → a (416 + i) = c 18 i := h.2.2.2.2.2.2.2.2.2.2.2.2.2.2.2.2.2.2.2.2.2.2.1
theorem RNet.gateV {c : Sg} {a : Nat → Int32} {N C Q : Nat} (h : RNet c a N C Q) : ∀ n, n < N → c 5 n = -1 ∨ ∃ k, k < C ∧ c 5 n = nn k ∧ c 9 k = nn n := h.2.2.2.2.2.2.2.2.2.2.2.2.2.2.2.2.2.2.2.2.2.2.2.1
theorem RNet.ends {c : Sg} {a : Nat → Int32} {N C Q : Nat} (h : RNet c a N C Q) : ∀ j, j < C → ∃ f t, f < t ∧ t < N ∧ c 9 j = nn f ∧ c 10 j = nn t := h.2.2.2.2.2.2.2.2.2.2.2.2.2.2.2.2.2.2.2.2.2.2.2.2.1
theorem RNet.lowV {c : Sg} {a : Nat → Int32} {N C Q : Nat} (h : RNet c a N C Q) : ∀ j, j < C → ∃ v, v ≤ 500 ∧ c 11 j = nn v := h.2.2.2.2.2.2.2.2.2.2.2.2.2.2.2.2.2.2.2.2.2.2.2.2.2.1
theorem RNet.higV {c : Sg} {a : Nat → Int32} {N C Q : Nat} (h : RNet c a N C Q) : ∀ j, j < C → ∃ v, v ≤ 500 ∧ c 12 j = nn v := h.2.2.2.2.2.2.2.2.2.2.2.2.2.2.2.2.2.2.2.2.2.2.2.2.2.2.1
theorem RNet.trvV {c : Sg} {a : Nat → Int32} {N C Q : Nat} (h : RNet c a N C Q) : ∀ j, j < C → ∃ v, v ≤ 8 ∧ c 13 j = nn v := h.2.2.2.2.2.2.2.2.2.2.2.2.2.2.2.2.2.2.2.2.2.2.2.2.2.2.2.1
theorem RNet.brdV {c : Sg} {a : Nat → Int32} {N C Q : Nat} (h : RNet c a N C Q) : ∀ j, j < C → ∃ v, 1 ≤ v ∧ v ≤ 9999 ∧ c 14 j = nn v := h.2.2.2.2.2.2.2.2.2.2.2.2.2.2.2.2.2.2.2.2.2.2.2.2.2.2.2.2.1
theorem RNet.brkV {c : Sg} {a : Nat → Int32} {N C Q : Nat} (h : RNet c a N C Q) : ∀ j, j < 14 → c 15 j = 0 ∨ c 15 j = 1 := h.2.2.2.2.2.2.2.2.2.2.2.2.2.2.2.2.2.2.2.2.2.2.2.2.2.2.2.2.2.1
theorem RNet.kindV {c : Sg} {a : Nat → Int32} {N C Q : Nat} (h : RNet c a N C Q) : ∀ n, n < N → ∃ k, k ≤ 4 ∧ c 3 n = nn k := h.2.2.2.2.2.2.2.2.2.2.2.2.2.2.2.2.2.2.2.2.2.2.2.2.2.2.2.2.2.2.1
theorem RNet.kepZ {c : Sg} {a : Nat → Int32} {N C Q : Nat} (h : RNet c a N C Q) : ∀ n, N ≤ n → n < 10 → c 7 n = 0 ∧ c 8 n = 0 := h.2.2.2.2.2.2.2.2.2.2.2.2.2.2.2.2.2.2.2.2.2.2.2.2.2.2.2.2.2.2.2.1
theorem RNet.brkZ {c : Sg} {a : Nat → Int32} {N C Q : Nat} (h : RNet c a N C Q) : ∀ j, C ≤ j → j < 14 → c 15 j = 0 := h.2.2.2.2.2.2.2.2.2.2.2.2.2.2.2.2.2.2.2.2.2.2.2.2.2.2.2.2.2.2.2.2.1
theorem RNet.wayZ {c : Sg} {a : Nat → Int32} {N C Q : Nat} (h : RNet c a N C Q) : ∀ i, 9 * C ≤ i → i < 126 → c 17 i = 0 ∧ c 18 i = 0 := h.2.2.2.2.2.2.2.2.2.2.2.2.2.2.2.2.2.2.2.2.2.2.2.2.2.2.2.2.2.2.2.2.2.1
theorem RNet.su00 {c : Sg} {a : Nat → Int32} {N C Q : Nat} (h : RNet c a N C Q) : a 10 = sumTo (fun n => if c 3 n = 0 then c 7 n else 0) 10 := h.2.2.2.2.2.2.2.2.2.2.2.2.2.2.2.2.2.2.2.2.2.2.2.2.2.2.2.2.2.2.2.2.2.2.1
theorem RNet.su01 {c : Sg} {a : Nat → Int32} {N C Q : Nat} (h : RNet c a N C Q) : a 11 = sumTo (fun n => if c 3 n = 4 then c 7 n else 0) 10 := h.2.2.2.2.2.2.2.2.2.2.2.2.2.2.2.2.2.2.2.2.2.2.2.2.2.2.2.2.2.2.2.2.2.2.2.1
theorem RNet.su02 {c : Sg} {a : Nat → Int32} {N C Q : Nat} (h : RNet c a N C Q) : a 12 = sumTo (fun n => if c 3 n = 2 then c 7 n else 0) 10 := h.2.2.2.2.2.2.2.2.2.2.2.2.2.2.2.2.2.2.2.2.2.2.2.2.2.2.2.2.2.2.2.2.2.2.2.2.1
theorem RNet.su03 {c : Sg} {a : Nat → Int32} {N C Q : Nat} (h : RNet c a N C Q) : a 13 = sumTo (c 17) 126 := h.2.2.2.2.2.2.2.2.2.2.2.2.2.2.2.2.2.2.2.2.2.2.2.2.2.2.2.2.2.2.2.2.2.2.2.2.2.1
theorem RNet.su04 {c : Sg} {a : Nat → Int32} {N C Q : Nat} (h : RNet c a N C Q) : a 14 = c 19 0 := h.2.2.2.2.2.2.2.2.2.2.2.2.2.2.2.2.2.2.2.2.2.2.2.2.2.2.2.2.2.2.2.2.2.2.2.2.2.2.1
theorem RNet.su05 {c : Sg} {a : Nat → Int32} {N C Q : Nat} (h : RNet c a N C Q) : a 15 = c 20 0 := h.2.2.2.2.2.2.2.2.2.2.2.2.2.2.2.2.2.2.2.2.2.2.2.2.2.2.2.2.2.2.2.2.2.2.2.2.2.2.2.1
theorem RNet.su06 {c : Sg} {a : Nat → Int32} {N C Q : Nat} (h : RNet c a N C Q) : a 16 = c 21 0 := h.2.2.2.2.2.2.2.2.2.2.2.2.2.2.2.2.2.2.2.2.2.2.2.2.2.2.2.2.2.2.2.2.2.2.2.2.2.2.2.2.1
theorem RNet.su10 {c : Sg} {a : Nat → Int32} {N C Q : Nat} (h : RNet c a N C Q) : a 17 = sumTo (fun n => if c 3 n = 0 then c 8 n else 0) 10 := h.2.2.2.2.2.2.2.2.2.2.2.2.2.2.2.2.2.2.2.2.2.2.2.2.2.2.2.2.2.2.2.2.2.2.2.2.2.2.2.2.2.1
theorem RNet.su11 {c : Sg} {a : Nat → Int32} {N C Q : Nat} (h : RNet c a N C Q) : a 18 = sumTo (fun n => if c 3 n = 4 then c 8 n else 0) 10 := h.2.2.2.2.2.2.2.2.2.2.2.2.2.2.2.2.2.2.2.2.2.2.2.2.2.2.2.2.2.2.2.2.2.2.2.2.2.2.2.2.2.2.1
theorem RNet.su12 {c : Sg} {a : Nat → Int32} {N C Q : Nat} (h : RNet c a N C Q) : a 19 = sumTo (fun n => if c 3 n = 2 then c 8 n else 0) 10 := h.2.2.2.2.2.2.2.2.2.2.2.2.2.2.2.2.2.2.2.2.2.2.2.2.2.2.2.2.2.2.2.2.2.2.2.2.2.2.2.2.2.2.2.1
theorem RNet.su13 {c : Sg} {a : Nat → Int32} {N C Q : Nat} (h : RNet c a N C Q) : a 20 = sumTo (c 18) 126 := h.2.2.2.2.2.2.2.2.2.2.2.2.2.2.2.2.2.2.2.2.2.2.2.2.2.2.2.2.2.2.2.2.2.2.2.2.2.2.2.2.2.2.2.2.1
theorem RNet.su14 {c : Sg} {a : Nat → Int32} {N C Q : Nat} (h : RNet c a N C Q) : a 21 = c 19 1 := h.2.2.2.2.2.2.2.2.2.2.2.2.2.2.2.2.2.2.2.2.2.2.2.2.2.2.2.2.2.2.2.2.2.2.2.2.2.2.2.2.2.2.2.2.2.1
theorem RNet.su15 {c : Sg} {a : Nat → Int32} {N C Q : Nat} (h : RNet c a N C Q) : a 22 = c 20 1 := h.2.2.2.2.2.2.2.2.2.2.2.2.2.2.2.2.2.2.2.2.2.2.2.2.2.2.2.2.2.2.2.2.2.2.2.2.2.2.2.2.2.2.2.2.2.2.1
theorem RNet.su16 {c : Sg} {a : Nat → Int32} {N C Q : Nat} (h : RNet c a N C Q) : a 23 = c 21 1 := h.2.2.2.2.2.2.2.2.2.2.2.2.2.2.2.2.2.2.2.2.2.2.2.2.2.2.2.2.2.2.2.2.2.2.2.2.2.2.2.2.2.2.2.2.2.2.2
theorem RNet.mk {c : Sg} {a : Nat → Int32} {N C Q : Nat} (hN : N ≤ 10) (hC : C ≤ 14) (hQ : Q ≤ 9599) (cN : c 2 1 = nn N) (aN : a 0 = nn N) (cC : c 2 6 = nn C) (aC : a 1 = nn C) (cQ : c 2 0 = nn Q) (aQ : a 3 = nn Q) (kind : ∀ n, n < 10 → a (140 + 5 * n) = c 3 n) (size : ∀ n, n < 10 → a (140 + 5 * n + 1) = c 4 n) (gate : ∀ n, n < 10 → a (140 + 5 * n + 2) = c 5 n) (kep0 : ∀ n, n < 10 → a (140 + 5 * n + 3) = c 7 n) (kep1 : ∀ n, n < 10 → a (140 + 5 * n + 4) = c 8 n) (frm : ∀ j, j < 14 → a (190 + 7 * j) = c 9 j) (to : ∀ j, j < 14 → a (190 + 7 * j + 1) = c 10 j) (low : ∀ j, j < 14 → a (190 + 7 * j + 2) = c 11 j) (hig : ∀ j, j < 14 → a (190 + 7 * j + 3) = c 12 j) (trv : ∀ j, j < 14 → a (190 + 7 * j + 4) = c 13 j) (brd : ∀ j, j < 14 → a (190 + 7 * j + 5) = c 14 j) (brk : ∀ j, j < 14 → a (190 + 7 * j + 6) = c 15 j) (way0 : ∀ i, i < 126 → a (290 + i) = c 17 i) (way1 : ∀ i, i < 126 → a (416 + i) = c 18 i) (gateV : ∀ n, n < N → c 5 n = -1 ∨ ∃ k, k < C ∧ c 5 n = nn k ∧ c 9 k = nn n) (ends : ∀ j, j < C → ∃ f t, f < t ∧ t < N ∧ c 9 j = nn f ∧ c 10 j = nn t) (lowV : ∀ j, j < C → ∃ v, v ≤ 500 ∧ c 11 j = nn v) (higV : ∀ j, j < C → ∃ v, v ≤ 500 ∧ c 12 j = nn v) (trvV : ∀ j, j < C → ∃ v, v ≤ 8 ∧ c 13 j = nn v) (brdV : ∀ j, j < C → ∃ v, 1 ≤ v ∧ v ≤ 9999 ∧ c 14 j = nn v) (brkV : ∀ j, j < 14 → c 15 j = 0 ∨ c 15 j = 1) (kindV : ∀ n, n < N → ∃ k, k ≤ 4 ∧ c 3 n = nn k) (kepZ : ∀ n, N ≤ n → n < 10 → c 7 n = 0 ∧ c 8 n = 0) (brkZ : ∀ j, C ≤ j → j < 14 → c 15 j = 0) (wayZ : ∀ i, 9 * C ≤ i → i < 126 → c 17 i = 0 ∧ c 18 i = 0) (su00 : a 10 = sumTo (fun n => if c 3 n = 0 then c 7 n else 0) 10) (su01 : a 11 = sumTo (fun n => if c 3 n = 4 then c 7 n else 0) 10) (su02 : a 12 = sumTo (fun n => if c 3 n = 2 then c 7 n else 0) 10) (su03 : a 13 = sumTo (c 17) 126) (su04 : a 14 = c 19 0) (su05 : a 15 = c 20 0) (su06 : a 16 = c 21 0) (su10 : a 17 = sumTo (fun n => if c 3 n = 0 then c 8 n else 0) 10) (su11 : a 18 = sumTo (fun n => if c 3 n = 4 then c 8 n else 0) 10) (su12 : a 19 = sumTo (fun n => if c 3 n = 2 then c 8 n else 0) 10) (su13 : a 20 = sumTo (c 18) 126) (su14 : a 21 = c 19 1) (su15 : a 22 = c 20 1) (su16 : a 23 = c 21 1) : RNet c a N C Q := ⟨hN, hC, hQ, cN, aN, cC, aC, cQ, aQ, kind, size, gate, kep0, kep1, frm, to, low, hig, trv, brd, brk, way0, way1, gateV, ends, lowV, higV, trvV, brdV, brkV, kindV, kepZ, brkZ, wayZ, su00, su01, su02, su03, su04, su05, su06, su10, su11, su12, su13, su14, su15, su16⟩
def iNet (j : Nat) : Prop := j = 0 ∨ j = 1 ∨ j = 3 ∨ (10 ≤ j ∧ j < 24) ∨ (140 ≤ j ∧ j < 542)
theorem RNet.fr {c c' : Sg} {a a' : Nat → Int32} {N C Q : Nat} (h : RNet c a N C Q) (hc : ∀ i, 2 ≤ i → i ≤ 21 → c' i = c i) (ha : ∀ j, iNet j → a' j = a j) : RNet c' a' N C Q := by
  have e2 := hc 2 (by decide) (by decide)
  have e3 := hc 3 (by decide) (by decide)
  have e4 := hc 4 (by decide) (by decide)
  have e5 := hc 5 (by decide) (by decide)
  have e7 := hc 7 (by decide) (by decide)
  have e8 := hc 8 (by decide) (by decide)
  have e9 := hc 9 (by decide) (by decide)
  have e10 := hc 10 (by decide) (by decide)
  have e11 := hc 11 (by decide) (by decide)
  have e12 := hc 12 (by decide) (by decide)
  have e13 := hc 13 (by decide) (by decide)
  have e14 := hc 14 (by decide) (by decide)
  have e15 := hc 15 (by decide) (by decide)
  have e17 := hc 17 (by decide) (by decide)
  have e18 := hc 18 (by decide) (by decide)
  have e19 := hc 19 (by decide) (by decide)
  have e20 := hc 20 (by decide) (by decide)
  have e21 := hc 21 (by decide) (by decide)
  have A : ∀ j, iNet j → a' j = a j := ha
  apply RNet.mk
  case hN => exact h.hN
  case hC => exact h.hC
  case hQ => exact h.hQ
  case cN => rw [e2]; exact h.cN
  case cC => rw [e2]; exact h.cC
  case cQ => rw [e2]; exact h.cQ
  case gateV => rw [e5, e9]; exact h.gateV
  case ends => rw [e9, e10]; exact h.ends
  case lowV => rw [e11]; exact h.lowV
  case higV => rw [e12]; exact h.higV
  case trvV => rw [e13]; exact h.trvV
  case brdV => rw [e14]; exact h.brdV
  case brkV => rw [e15]; exact h.brkV
  case kindV => rw [e3]; exact h.kindV
  case kepZ => rw [e7, e8]; exact h.kepZ
  case brkZ => rw [e15]; exact h.brkZ
  case wayZ => rw [e17, e18]; exact h.wayZ
  case aN => rw [A 0 (by unfold iNet; omega)]; exact h.aN
  case aC => rw [A 1 (by unfold iNet; omega)]; exact h.aC
  case aQ => rw [A 3 (by unfold iNet; omega)]; exact h.aQ
  case kind => intro n hn; rw [A _ (by unfold iNet; omega), e3]; exact h.kind n hn
  case size => intro n hn; rw [A _ (by unfold iNet; omega), e4]; exact h.size n hn
  case gate => intro n hn; rw [A _ (by unfold iNet; omega), e5]; exact h.gate n hn
  case kep0 => intro n hn; rw [A _ (by unfold iNet; omega), e7]; exact h.kep0 n hn
  case kep1 => intro n hn; rw [A _ (by unfold iNet; omega), e8]; exact h.kep1 n hn
  case frm => intro n hn; rw [A _ (by unfold iNet; omega), e9]; exact h.frm n hn
  case to => intro n hn; rw [A _ (by unfold iNet; omega), e10]; exact h.to n hn
  case low => intro n hn; rw [A _ (by unfold iNet; omega), e11]; exact h.low n hn
  case hig => intro n hn; rw [A _ (by unfold iNet; omega), e12]; exact h.hig n hn
  case trv => intro n hn; rw [A _ (by unfold iNet; omega), e13]; exact h.trv n hn
  case brd => intro n hn; rw [A _ (by unfold iNet; omega), e14]; exact h.brd n hn
  case brk => intro n hn; rw [A _ (by unfold iNet; omega), e15]; exact h.brk n hn
  case way0 => intro n hn; rw [A _ (by unfold iNet; omega), e17]; exact h.way0 n hn
  case way1 => intro n hn; rw [A _ (by unfold iNet; omega), e18]; exact h.way1 n hn
  case su00 => rw [A _ (by unfold iNet; omega), e3, e7]; exact h.su00
  case su01 => rw [A _ (by unfold iNet; omega), e3, e7]; exact h.su01
  case su02 => rw [A _ (by unfold iNet; omega), e3, e7]; exact h.su02
  case su03 => rw [A _ (by unfold iNet; omega), e17]; exact h.su03
  case su04 => rw [A _ (by unfold iNet; omega), e19]; exact h.su04
  case su05 => rw [A _ (by unfold iNet; omega), e20]; exact h.su05
  case su06 => rw [A _ (by unfold iNet; omega), e21]; exact h.su06
  case su10 => rw [A _ (by unfold iNet; omega), e3, e8]; exact h.su10
  case su11 => rw [A _ (by unfold iNet; omega), e3, e8]; exact h.su11
  case su12 => rw [A _ (by unfold iNet; omega), e3, e8]; exact h.su12
  case su13 => rw [A _ (by unfold iNet; omega), e18]; exact h.su13
  case su14 => rw [A _ (by unfold iNet; omega), e19]; exact h.su14
  case su15 => rw [A _ (by unfold iNet; omega), e20]; exact h.su15
  case su16 => rw [A _ (by unfold iNet; omega), e21]; exact h.su16
def RRig (c : Sg) (a : Nat → Int32) (D N Q : Nat) : Prop :=
  (D ≤ 120) ∧
  (c 22 1 = nn D) ∧
  (a 2 = nn D) ∧
  (∀ h, h < 8 → a (30 + h) = c 23 h) ∧
  (∀ h, h < 8 → c 23 h = -1 ∨ ∃ n, n < N ∧ c 23 h = nn n) ∧
  (∀ d, d < 120 → a (550 + 6 * d) = c 24 d) ∧
  (∀ d, d < 120 → a (550 + 6 * d + 1) = c 25 d) ∧
  (∀ d, d < 120 → a (550 + 6 * d + 2) = c 26 d) ∧
  (∀ d, d < 120 → a (550 + 6 * d + 3) = c 27 d) ∧
  (∀ d, d < 120 → a (550 + 6 * d + 4) = c 28 d) ∧
  (∀ d, d < 120 → a (550 + 6 * d + 5) = c 29 d) ∧
  (∀ d, d < D → ∃ f l, f ≤ l ∧ l < 168 ∧ c 24 d = nn f ∧ c 25 d = nn l) ∧
  (∀ d, d < D → ∃ w, w < 8 ∧ c 26 d = nn w) ∧
  (∀ d, d < D → ∃ s, s < 100 ∧ c 27 d = nn s) ∧
  (∀ d, d < D → ∃ y, y ≤ Q / 96 ∧ c 28 d = nn y) ∧
  (∀ d, d < D → c 29 d = -1 ∨ ∃ z, z ≤ Q / 96 ∧ c 29 d = nn z) ∧
  (c 22 8 = nn ((Q + 3) / 4)) ∧
  (a 6 = nn ((Q + 3) / 4)) ∧
  (∀ i, i < 2400 → a (1870 + i) = c 30 i) ∧
  (∀ i, i < 2400 → c 30 i = -1 ∨ ∃ h, h < 8 ∧ c 30 i = nn h)
theorem RRig.hD {c : Sg} {a : Nat → Int32} {D N Q : Nat} (h : RRig c a D N Q) : D ≤ 120 := h.1
theorem RRig.cD {c : Sg} {a : Nat → Int32} {D N Q : Nat} (h : RRig c a D N Q) : c 22 1 = nn D := h.2.1
theorem RRig.aD {c : Sg} {a : Nat → Int32} {D N Q : Nat} (h : RRig c a D N Q) : a 2 = nn D := h.2.2.1
theorem RRig.home {c : Sg} {a : Nat → Int32} {D N Q : Nat} (h : RRig c a D N Q) : ∀ h, h < 8 → a (30 + h) = c 23 h := h.2.2.2.1
theorem RRig.homeV {c : Sg} {a : Nat → Int32} {D N Q : Nat} (h : RRig c a D N Q) : ∀ h, h < 8 → c 23 h = -1 ∨ ∃ n, n < N ∧ c 23 h = nn n := h.2.2.2.2.1
theorem RRig.d0 {c : Sg} {a : Nat → Int32} {D N Q : Nat} (h : RRig c a D N Q) : ∀ d, d < 120 → a (550 + 6 * d) = c 24 d := h.2.2.2.2.2.1
theorem RRig.d1 {c : Sg} {a : Nat → Int32} {D N Q : Nat} (h : RRig c a D N Q) : ∀ d, d < 120 → a (550 + 6 * d + 1) = c 25 d := h.2.2.2.2.2.2.1
theorem RRig.d2 {c : Sg} {a : Nat → Int32} {D N Q : Nat} (h : RRig c a D N Q) : ∀ d, d < 120 → a (550 + 6 * d + 2) = c 26 d := h.2.2.2.2.2.2.2.1
theorem RRig.d3 {c : Sg} {a : Nat → Int32} {D N Q : Nat} (h : RRig c a D N Q) : ∀ d, d < 120 → a (550 + 6 * d + 3) = c 27 d := h.2.2.2.2.2.2.2.2.1
theorem RRig.d4 {c : Sg} {a : Nat → Int32} {D N Q : Nat} (h : RRig c a D N Q) : ∀ d, d < 120 → a (550 + 6 * d + 4) = c 28 d := h.2.2.2.2.2.2.2.2.2.1
theorem RRig.d5 {c : Sg} {a : Nat → Int32} {D N Q : Nat} (h : RRig c a D N Q) : ∀ d, d < 120 → a (550 + 6 * d + 5) = c 29 d := h.2.2.2.2.2.2.2.2.2.2.1
theorem RRig.dFL {c : Sg} {a : Nat → Int32} {D N Q : Nat} (h : RRig c a D N Q) : ∀ d, d < D → ∃ f l, f ≤ l ∧ l < 168 ∧ c 24 d = nn f ∧ c 25 d = nn l := h.2.2.2.2.2.2.2.2.2.2.2.1
theorem RRig.dW {c : Sg} {a : Nat → Int32} {D N Q : Nat} (h : RRig c a D N Q) : ∀ d, d < D → ∃ w, w < 8 ∧ c 26 d = nn w := h.2.2.2.2.2.2.2.2.2.2.2.2.1
theorem RRig.dS {c : Sg} {a : Nat → Int32} {D N Q : Nat} (h : RRig c a D N Q) : ∀ d, d < D → ∃ s, s < 100 ∧ c 27 d = nn s := h.2.2.2.2.2.2.2.2.2.2.2.2.2.1
theorem RRig.dY {c : Sg} {a : Nat → Int32} {D N Q : Nat} (h : RRig c a D N Q) : ∀ d, d < D → ∃ y, y ≤ Q / 96 ∧ c 28 d = nn y := h.2.2.2.2.2.2.2.2.2.2.2.2.2.2.1
theorem RRig.dV {c : Sg} {a : Nat → Int32} {D N Q : Nat} (h : RRig c a D N Q) : ∀ d, d < D → c 29 d = -1 ∨ ∃ z, z ≤ Q / 96 ∧ c 29 d = nn z := h.2.2.2.2.2.2.2.2.2.2.2.2.2.2.2.1
theorem RRig.cR {c : Sg} {a : Nat → Int32} {D N Q : Nat} (h : RRig c a D N Q) : c 22 8 = nn ((Q + 3) / 4) := h.2.2.2.2.2.2.2.2.2.2.2.2.2.2.2.2.1
theorem RRig.aR {c : Sg} {a : Nat → Int32} {D N Q : Nat} (h : RRig c a D N Q) : a 6 = nn ((Q + 3) / 4) := h.2.2.2.2.2.2.2.2.2.2.2.2.2.2.2.2.2.1
theorem RRig.runs {c : Sg} {a : Nat → Int32} {D N Q : Nat} (h : RRig c a D N Q) : ∀ i, i < 2400 → a (1870 + i) = c 30 i := h.2.2.2.2.2.2.2.2.2.2.2.2.2.2.2.2.2.2.1
theorem RRig.runV {c : Sg} {a : Nat → Int32} {D N Q : Nat} (h : RRig c a D N Q) : ∀ i, i < 2400 → c 30 i = -1 ∨ ∃ h, h < 8 ∧ c 30 i = nn h := h.2.2.2.2.2.2.2.2.2.2.2.2.2.2.2.2.2.2.2
theorem RRig.mk {c : Sg} {a : Nat → Int32} {D N Q : Nat} (hD : D ≤ 120) (cD : c 22 1 = nn D) (aD : a 2 = nn D) (home : ∀ h, h < 8 → a (30 + h) = c 23 h) (homeV : ∀ h, h < 8 → c 23 h = -1 ∨ ∃ n, n < N ∧ c 23 h = nn n) (d0 : ∀ d, d < 120 → a (550 + 6 * d) = c 24 d) (d1 : ∀ d, d < 120 → a (550 + 6 * d + 1) = c 25 d) (d2 : ∀ d, d < 120 → a (550 + 6 * d + 2) = c 26 d) (d3 : ∀ d, d < 120 → a (550 + 6 * d + 3) = c 27 d) (d4 : ∀ d, d < 120 → a (550 + 6 * d + 4) = c 28 d) (d5 : ∀ d, d < 120 → a (550 + 6 * d + 5) = c 29 d) (dFL : ∀ d, d < D → ∃ f l, f ≤ l ∧ l < 168 ∧ c 24 d = nn f ∧ c 25 d = nn l) (dW : ∀ d, d < D → ∃ w, w < 8 ∧ c 26 d = nn w) (dS : ∀ d, d < D → ∃ s, s < 100 ∧ c 27 d = nn s) (dY : ∀ d, d < D → ∃ y, y ≤ Q / 96 ∧ c 28 d = nn y) (dV : ∀ d, d < D → c 29 d = -1 ∨ ∃ z, z ≤ Q / 96 ∧ c 29 d = nn z) (cR : c 22 8 = nn ((Q + 3) / 4)) (aR : a 6 = nn ((Q + 3) / 4)) (runs : ∀ i, i < 2400 → a (1870 + i) = c 30 i) (runV : ∀ i, i < 2400 → c 30 i = -1 ∨ ∃ h, h < 8 ∧ c 30 i = nn h) : RRig c a D N Q := ⟨hD, cD, aD, home, homeV, d0, d1, d2, d3, d4, d5, dFL, dW, dS, dY, dV, cR, aR, runs, runV⟩
def iRig (j : Nat) : Prop := j = 2 ∨ j = 6 ∨ (30 ≤ j ∧ j < 38) ∨ (550 ≤ j ∧ j < 1270) ∨ (1870 ≤ j ∧ j < 4270)
theorem RRig.fr {c c' : Sg} {a a' : Nat → Int32} {D N Q : Nat} (h : RRig c a D N Q) (hc : ∀ i, 22 ≤ i → i ≤ 30 → c' i = c i) (ha : ∀ j, iRig j → a' j = a j) : RRig c' a' D N Q := by
  have e22 := hc 22 (by decide) (by decide)
  have e23 := hc 23 (by decide) (by decide)
  have e24 := hc 24 (by decide) (by decide)
  have e25 := hc 25 (by decide) (by decide)
  have e26 := hc 26 (by decide) (by decide)
  have e27 := hc 27 (by decide) (by decide)
  have e28 := hc 28 (by decide) (by decide)
  have e29 := hc 29 (by decide) (by decide)
  have e30 := hc 30 (by decide) (by decide)
  have A : ∀ j, iRig j → a' j = a j := ha
  apply RRig.mk
  case hD => exact h.hD
  case cD => rw [e22]; exact h.cD
  case aD => rw [A _ (by unfold iRig; omega)]; exact h.aD
  case home => intro n hn; rw [A _ (by unfold iRig; omega), e23]; exact h.home n hn
  case homeV => rw [e23]; exact h.homeV
  case d0 => intro n hn; rw [A _ (by unfold iRig; omega), e24]; exact h.d0 n hn
  case d1 => intro n hn; rw [A _ (by unfold iRig; omega), e25]; exact h.d1 n hn
  case d2 => intro n hn; rw [A _ (by unfold iRig; omega), e26]; exact h.d2 n hn
  case d3 => intro n hn; rw [A _ (by unfold iRig; omega), e27]; exact h.d3 n hn
  case d4 => intro n hn; rw [A _ (by unfold iRig; omega), e28]; exact h.d4 n hn
  case d5 => intro n hn; rw [A _ (by unfold iRig; omega), e29]; exact h.d5 n hn
  case dFL => rw [e24, e25]; exact h.dFL
  case dW => rw [e26]; exact h.dW
  case dS => rw [e27]; exact h.dS
  case dY => rw [e28]; exact h.dY
  case dV => rw [e29]; exact h.dV
  case cR => rw [e22]; exact h.cR
  case aR => rw [A _ (by unfold iRig; omega)]; exact h.aR
  case runs => intro n hn; rw [A _ (by unfold iRig; omega), e30]; exact h.runs n hn
  case runV => rw [e30]; exact h.runV
/-- a test of the statute: the class's and the model's -/
def tSign (x y : Int32) : Prop := (x = 15 ∧ y = 60) ∨ (x = 16 ∧ y = 62) ∨ (x = 17 ∧ y = 61)
def tAct (x y : Int32) : Prop := (x = 4 ∧ y = 20) ∨ (x = 5 ∧ y = 21) ∨ (x = 6 ∧ y = 22)
def tTest (n f s l : Int32) (a : Nat → Int32) (i : Nat) : Prop := (n = 0 ∨ n = 1) ∧ a i = n ∧ (∃ w, 1 ≤ w ∧ w ≤ 6 ∧ f = nn (6 + w) ∧ a (i + 1) = nn w) ∧ tSign s (a (i + 2)) ∧ a (i + 3) = l
def tLine (ac nu te : Nat → Int32) (no fa si li : Nat → Int32) (k : Nat) (a : Nat → Int32) (i : Nat) : Prop :=
  (∃ n, n ≤ 4 ∧ te k = nn n ∧ a i = nn n ∧ ∀ t, t < n → tTest (no (4 * k + t)) (fa (4 * k + t)) (si (4 * k + t)) (li (4 * k + t)) a (i + 1 + 4 * t)) ∧ tAct (ac k) (a (i + 17)) ∧ a (i + 18) = nu k ∧ ∃ v, v ≤ 9999 ∧ nu k = nn v
def RLaw (c : Sg) (a : Nat → Int32) (T L : Nat) : Prop :=
  (T ≤ 500) ∧
  (L ≤ 16) ∧
  (c 31 0 = nn T) ∧
  (a 7 = nn T) ∧
  (∀ i, i < 500 → a (4590 + i) = c 32 i &&& 255) ∧
  (∀ i, i < 500 → ∃ b : Int8, c 32 i = b.toInt32) ∧
  (a 8 = c 31 2) ∧
  (a 9 = c 31 3) ∧
  (∀ w, w < 100 → a (40 + w) = c 41 w) ∧
  (∀ w, w < 100 → c 41 w = 0 ∨ c 41 w = 1) ∧
  (c 33 0 = nn L) ∧
  (a 4 = nn L) ∧
  (∀ k, k < L → tLine (c 34) (c 35) (c 36) (c 37) (c 38) (c 39) (c 40) k a (4270 + 20 * k))
theorem RLaw.hT {c : Sg} {a : Nat → Int32} {T L : Nat} (h : RLaw c a T L) : T ≤ 500 := h.1
theorem RLaw.hL {c : Sg} {a : Nat → Int32} {T L : Nat} (h : RLaw c a T L) : L ≤ 16 := h.2.1
theorem RLaw.cT {c : Sg} {a : Nat → Int32} {T L : Nat} (h : RLaw c a T L) : c 31 0 = nn T := h.2.2.1
theorem RLaw.aT {c : Sg} {a : Nat → Int32} {T L : Nat} (h : RLaw c a T L) : a 7 = nn T := h.2.2.2.1
theorem RLaw.tape {c : Sg} {a : Nat → Int32} {T L : Nat} (h : RLaw c a T L) : ∀ i, i < 500 → a (4590 + i) = c 32 i &&& 255 := h.2.2.2.2.1
theorem RLaw.tapeV {c : Sg} {a : Nat → Int32} {T L : Nat} (h : RLaw c a T L) : ∀ i, i < 500 → ∃ b : Int8, c 32 i = b.toInt32 := h.2.2.2.2.2.1
theorem RLaw.fk {c : Sg} {a : Nat → Int32} {T L : Nat} (h : RLaw c a T L) : a 8 = c 31 2 := h.2.2.2.2.2.2.1
theorem RLaw.fp {c : Sg} {a : Nat → Int32} {T L : Nat} (h : RLaw c a T L) : a 9 = c 31 3 := h.2.2.2.2.2.2.2.1
theorem RLaw.dry {c : Sg} {a : Nat → Int32} {T L : Nat} (h : RLaw c a T L) : ∀ w, w < 100 → a (40 + w) = c 41 w := h.2.2.2.2.2.2.2.2.1
theorem RLaw.dryV {c : Sg} {a : Nat → Int32} {T L : Nat} (h : RLaw c a T L) : ∀ w, w < 100 → c 41 w = 0 ∨ c 41 w = 1 := h.2.2.2.2.2.2.2.2.2.1
theorem RLaw.cL {c : Sg} {a : Nat → Int32} {T L : Nat} (h : RLaw c a T L) : c 33 0 = nn L := h.2.2.2.2.2.2.2.2.2.2.1
theorem RLaw.aL {c : Sg} {a : Nat → Int32} {T L : Nat} (h : RLaw c a T L) : a 4 = nn L := h.2.2.2.2.2.2.2.2.2.2.2.1
theorem RLaw.ln {c : Sg} {a : Nat → Int32} {T L : Nat} (h : RLaw c a T L) : ∀ k, k < L → tLine (c 34) (c 35) (c 36) (c 37) (c 38) (c 39) (c 40) k a (4270 + 20 * k) := h.2.2.2.2.2.2.2.2.2.2.2.2
theorem RLaw.mk {c : Sg} {a : Nat → Int32} {T L : Nat} (hT : T ≤ 500) (hL : L ≤ 16) (cT : c 31 0 = nn T) (aT : a 7 = nn T) (tape : ∀ i, i < 500 → a (4590 + i) = c 32 i &&& 255) (tapeV : ∀ i, i < 500 → ∃ b : Int8, c 32 i = b.toInt32) (fk : a 8 = c 31 2) (fp : a 9 = c 31 3) (dry : ∀ w, w < 100 → a (40 + w) = c 41 w) (dryV : ∀ w, w < 100 → c 41 w = 0 ∨ c 41 w = 1) (cL : c 33 0 = nn L) (aL : a 4 = nn L) (ln : ∀ k, k < L → tLine (c 34) (c 35) (c 36) (c 37) (c 38) (c 39) (c 40) k a (4270 + 20 * k)) : RLaw c a T L := ⟨hT, hL, cT, aT, tape, tapeV, fk, fp, dry, dryV, cL, aL, ln⟩
def iLaw (j : Nat) : Prop := j = 4 ∨ j = 7 ∨ j = 8 ∨ j = 9 ∨ (40 ≤ j ∧ j < 140) ∨ (4270 ≤ j ∧ j < 5090)
theorem tLine_fr {ac nu te no fa si li : Nat → Int32} {k i i' : Nat} {a a' : Nat → Int32} (ha : ∀ j, j < 19 → a' (i' + j) = a (i + j)) (h : tLine ac nu te no fa si li k a i) : tLine ac nu te no fa si li k a' i' := by
  obtain ⟨⟨n, h1, h2, h3, h4⟩, h5, h6, h7⟩ := h
  refine ⟨⟨n, h1, h2, (ha 0 (by decide)).trans h3, fun t ht => ?_⟩, ?_, ?_, h7⟩
  · obtain ⟨g1, g2, g3, g4, g5⟩ := h4 t ht
    have e0 : a' (i' + 1 + 4 * t) = a (i + 1 + 4 * t) := by have := ha (1 + 4 * t) (by omega); rwa [← Nat.add_assoc, ← Nat.add_assoc] at this
    have e1 : a' (i' + 1 + 4 * t + 1) = a (i + 1 + 4 * t + 1) := by have := ha (1 + 4 * t + 1) (by omega); rwa [show i' + (1 + 4 * t + 1) = i' + 1 + 4 * t + 1 by omega, show i + (1 + 4 * t + 1) = i + 1 + 4 * t + 1 by omega] at this
    have e2 : a' (i' + 1 + 4 * t + 2) = a (i + 1 + 4 * t + 2) := by have := ha (1 + 4 * t + 2) (by omega); rwa [show i' + (1 + 4 * t + 2) = i' + 1 + 4 * t + 2 by omega, show i + (1 + 4 * t + 2) = i + 1 + 4 * t + 2 by omega] at this
    have e3 : a' (i' + 1 + 4 * t + 3) = a (i + 1 + 4 * t + 3) := by have := ha (1 + 4 * t + 3) (by omega); rwa [show i' + (1 + 4 * t + 3) = i' + 1 + 4 * t + 3 by omega, show i + (1 + 4 * t + 3) = i + 1 + 4 * t + 3 by omega] at this
    exact ⟨g1, e0.trans g2, by rw [e1]; exact g3, by rw [e2]; exact g4, e3.trans g5⟩
  · rw [ha 17 (by decide)]; exact h5
  · rw [ha 18 (by decide)]; exact h6
theorem RLaw.fr {c c' : Sg} {a a' : Nat → Int32} {T L : Nat} (h : RLaw c a T L) (hc : ∀ i, 31 ≤ i → i ≤ 41 → c' i = c i) (ha : ∀ j, iLaw j → a' j = a j) : RLaw c' a' T L := by
  have e31 := hc 31 (by decide) (by decide)
  have e32 := hc 32 (by decide) (by decide)
  have e33 := hc 33 (by decide) (by decide)
  have e34 := hc 34 (by decide) (by decide)
  have e35 := hc 35 (by decide) (by decide)
  have e36 := hc 36 (by decide) (by decide)
  have e37 := hc 37 (by decide) (by decide)
  have e38 := hc 38 (by decide) (by decide)
  have e39 := hc 39 (by decide) (by decide)
  have e40 := hc 40 (by decide) (by decide)
  have e41 := hc 41 (by decide) (by decide)
  have A : ∀ j, iLaw j → a' j = a j := ha
  apply RLaw.mk
  case hT => exact h.hT
  case hL => exact h.hL
  case cT => rw [e31]; exact h.cT
  case aT => rw [A _ (by unfold iLaw; omega)]; exact h.aT
  case tape => intro n hn; rw [A _ (by unfold iLaw; omega), e32]; exact h.tape n hn
  case tapeV => rw [e32]; exact h.tapeV
  case fk => rw [A _ (by unfold iLaw; omega), e31]; exact h.fk
  case fp => rw [A _ (by unfold iLaw; omega), e31]; exact h.fp
  case dry => intro n hn; rw [A _ (by unfold iLaw; omega), e41]; exact h.dry n hn
  case dryV => rw [e41]; exact h.dryV
  case cL => rw [e33]; exact h.cL
  case aL => rw [A _ (by unfold iLaw; omega)]; exact h.aL
  case ln =>
    intro k hk
    have := h.hL
    rw [e34, e35, e36, e37, e38, e39, e40]
    exact tLine_fr (fun j hj => A _ (by unfold iLaw; omega)) (h.ln k hk)
def RGau (c : Sg) (a : Nat → Int32) (G C Q : Nat) : Prop :=
  (G ≤ 150) ∧
  (c 42 0 = nn G) ∧
  (a 5 = nn G) ∧
  (∀ r, r < 150 → a (1270 + 4 * r) = c 43 r) ∧
  (∀ r, r < 150 → a (1270 + 4 * r + 1) = c 44 r) ∧
  (∀ r, r < 150 → a (1270 + 4 * r + 2) = c 45 r) ∧
  (∀ r, r < 150 → a (1270 + 4 * r + 3) = c 46 r) ∧
  (∀ r, r < G → ∃ k, k < C ∧ c 43 r = nn k) ∧
  (∀ r, r < G → ∃ q, q ≤ Q ∧ c 44 r = nn q) ∧
  (∀ r, r < G → ∃ v, v ≤ 9999 ∧ c 45 r = nn v) ∧
  (∀ r, r < G → ∃ v, v ≤ 9999 ∧ c 46 r = nn v)
theorem RGau.hG {c : Sg} {a : Nat → Int32} {G C Q : Nat} (h : RGau c a G C Q) : G ≤ 150 := h.1
theorem RGau.cG {c : Sg} {a : Nat → Int32} {G C Q : Nat} (h : RGau c a G C Q) : c 42 0 = nn G := h.2.1
theorem RGau.aG {c : Sg} {a : Nat → Int32} {G C Q : Nat} (h : RGau c a G C Q) : a 5 = nn G := h.2.2.1
theorem RGau.g0 {c : Sg} {a : Nat → Int32} {G C Q : Nat} (h : RGau c a G C Q) : ∀ r, r < 150 → a (1270 + 4 * r) = c 43 r := h.2.2.2.1
theorem RGau.g1 {c : Sg} {a : Nat → Int32} {G C Q : Nat} (h : RGau c a G C Q) : ∀ r, r < 150 → a (1270 + 4 * r + 1) = c 44 r := h.2.2.2.2.1
theorem RGau.g2 {c : Sg} {a : Nat → Int32} {G C Q : Nat} (h : RGau c a G C Q) : ∀ r, r < 150 → a (1270 + 4 * r + 2) = c 45 r := h.2.2.2.2.2.1
theorem RGau.g3 {c : Sg} {a : Nat → Int32} {G C Q : Nat} (h : RGau c a G C Q) : ∀ r, r < 150 → a (1270 + 4 * r + 3) = c 46 r := h.2.2.2.2.2.2.1
theorem RGau.gC {c : Sg} {a : Nat → Int32} {G C Q : Nat} (h : RGau c a G C Q) : ∀ r, r < G → ∃ k, k < C ∧ c 43 r = nn k := h.2.2.2.2.2.2.2.1
theorem RGau.gQ {c : Sg} {a : Nat → Int32} {G C Q : Nat} (h : RGau c a G C Q) : ∀ r, r < G → ∃ q, q ≤ Q ∧ c 44 r = nn q := h.2.2.2.2.2.2.2.2.1
theorem RGau.gI {c : Sg} {a : Nat → Int32} {G C Q : Nat} (h : RGau c a G C Q) : ∀ r, r < G → ∃ v, v ≤ 9999 ∧ c 45 r = nn v := h.2.2.2.2.2.2.2.2.2.1
theorem RGau.gO {c : Sg} {a : Nat → Int32} {G C Q : Nat} (h : RGau c a G C Q) : ∀ r, r < G → ∃ v, v ≤ 9999 ∧ c 46 r = nn v := h.2.2.2.2.2.2.2.2.2.2
theorem RGau.mk {c : Sg} {a : Nat → Int32} {G C Q : Nat} (hG : G ≤ 150) (cG : c 42 0 = nn G) (aG : a 5 = nn G) (g0 : ∀ r, r < 150 → a (1270 + 4 * r) = c 43 r) (g1 : ∀ r, r < 150 → a (1270 + 4 * r + 1) = c 44 r) (g2 : ∀ r, r < 150 → a (1270 + 4 * r + 2) = c 45 r) (g3 : ∀ r, r < 150 → a (1270 + 4 * r + 3) = c 46 r) (gC : ∀ r, r < G → ∃ k, k < C ∧ c 43 r = nn k) (gQ : ∀ r, r < G → ∃ q, q ≤ Q ∧ c 44 r = nn q) (gI : ∀ r, r < G → ∃ v, v ≤ 9999 ∧ c 45 r = nn v) (gO : ∀ r, r < G → ∃ v, v ≤ 9999 ∧ c 46 r = nn v) : RGau c a G C Q := ⟨hG, cG, aG, g0, g1, g2, g3, gC, gQ, gI, gO⟩
def iGau (j : Nat) : Prop := j = 5 ∨ (1270 ≤ j ∧ j < 1870)
theorem RGau.fr {c c' : Sg} {a a' : Nat → Int32} {G C Q : Nat} (h : RGau c a G C Q) (hc : ∀ i, 42 ≤ i → i ≤ 46 → c' i = c i) (ha : ∀ j, iGau j → a' j = a j) : RGau c' a' G C Q := by
  have e42 := hc 42 (by decide) (by decide)
  have e43 := hc 43 (by decide) (by decide)
  have e44 := hc 44 (by decide) (by decide)
  have e45 := hc 45 (by decide) (by decide)
  have e46 := hc 46 (by decide) (by decide)
  have A : ∀ j, iGau j → a' j = a j := ha
  apply RGau.mk
  case hG => exact h.hG
  case cG => rw [e42]; exact h.cG
  case aG => rw [A _ (by unfold iGau; omega)]; exact h.aG
  case g0 => intro n hn; rw [A _ (by unfold iGau; omega), e43]; exact h.g0 n hn
  case g1 => intro n hn; rw [A _ (by unfold iGau; omega), e44]; exact h.g1 n hn
  case g2 => intro n hn; rw [A _ (by unfold iGau; omega), e45]; exact h.g2 n hn
  case g3 => intro n hn; rw [A _ (by unfold iGau; omega), e46]; exact h.g3 n hn
  case gC => rw [e43]; exact h.gC
  case gQ => rw [e44]; exact h.gQ
  case gI => rw [e45]; exact h.gI
  case gO => rw [e46]; exact h.gO
def RTn (c : Sg) (a : Nat → Int32) (N C Q D T L G : Nat) : Prop :=
  (RNet c a N C Q) ∧
  (RRig c a D N Q) ∧
  (RLaw c a T L) ∧
  (RGau c a G C Q)
theorem RTn.net {c : Sg} {a : Nat → Int32} {N C Q D T L G : Nat} (h : RTn c a N C Q D T L G) : RNet c a N C Q := h.1
theorem RTn.rig {c : Sg} {a : Nat → Int32} {N C Q D T L G : Nat} (h : RTn c a N C Q D T L G) : RRig c a D N Q := h.2.1
theorem RTn.law {c : Sg} {a : Nat → Int32} {N C Q D T L G : Nat} (h : RTn c a N C Q D T L G) : RLaw c a T L := h.2.2.1
theorem RTn.gau {c : Sg} {a : Nat → Int32} {N C Q D T L G : Nat} (h : RTn c a N C Q D T L G) : RGau c a G C Q := h.2.2.2
theorem RTn.mk {c : Sg} {a : Nat → Int32} {N C Q D T L G : Nat} (net : RNet c a N C Q) (rig : RRig c a D N Q) (law : RLaw c a T L) (gau : RGau c a G C Q) : RTn c a N C Q D T L G := ⟨net, rig, law, gau⟩
def RT (c : Sg) (a : Nat → Int32) : Prop := ∃ N C Q D T L G, RTn c a N C Q D T L G
theorem RTn.fr {c c' : Sg} {a a' : Nat → Int32} {N C Q D T L G : Nat} (h : RTn c a N C Q D T L G) (hc : ∀ i, 2 ≤ i → i ≤ 46 → c' i = c i) (ha : ∀ j, j < 5090 → a' j = a j) : RTn c' a' N C Q D T L G :=
  ⟨h.net.fr (fun i h1 h2 => hc i h1 (by omega)) (fun j hj => ha j (by unfold iNet at hj; omega)), h.rig.fr (fun i h1 h2 => hc i (by omega) (by omega)) (fun j hj => ha j (by unfold iRig at hj; omega)), h.law.fr (fun i h1 h2 => hc i (by omega) (by omega)) (fun j hj => ha j (by unfold iLaw at hj; omega)), h.gau.fr (fun i h1 h2 => hc i (by omega) (by omega)) (fun j hj => ha j (by unfold iGau at hj; omega))⟩
theorem RT.fr {c c' : Sg} {a a' : Nat → Int32} (h : RT c a) (hc : ∀ i, 2 ≤ i → i ≤ 46 → c' i = c i) (ha : ∀ j, j < 5090 → a' j = a j) : RT c' a' := by
  obtain ⟨N, C, Q, D, T, L, G, h⟩ := h
  exact ⟨N, C, Q, D, T, L, G, h.fr hc ha⟩
def RI (g : Sg) : Prop := ∀ k, k < 3 → g 217 k = g 186 k ∧ (g 186 k = 0 ∨ g 186 k = 1) ∧ (g 186 k = 1 → RT (fun i => g (i + (47 + 46 * k))) (fun j => g 216 (5090 * (k + 1) + j)))
def RR (TS : Sg → Prop) (g : Sg) : Prop :=
  (RT g (g 216)) ∧
  (RI g) ∧
  (TS g)
theorem RR.now {TS : Sg → Prop} {g : Sg} (h : RR TS g) : RT g (g 216) := h.1
theorem RR.img {TS : Sg → Prop} {g : Sg} (h : RR TS g) : RI g := h.2.1
theorem RR.trn {TS : Sg → Prop} {g : Sg} (h : RR TS g) : TS g := h.2.2
theorem RR.mk {TS : Sg → Prop} {g : Sg} (now : RT g (g 216)) (img : RI g) (trn : TS g) : RR TS g := ⟨now, img, trn⟩
def TSf (TS : Sg → Prop) : Prop := ∀ g g' : Sg, (∀ i, 208 ≤ i → (i ≤ 214 ∨ (229 ≤ i ∧ i ≤ 230)) → g' i = g i) → TS g → TS g'
theorem RI.fr {g g' : Sg} (h : RI g) (hi : ∀ i, 48 ≤ i → i ≤ 186 → g' i = g i) (ha : ∀ j, 5090 ≤ j → g' 216 j = g 216 j) (hh : g' 217 = g 217) : RI g' := by
  intro k hk
  obtain ⟨h1, h2, h3⟩ := h k hk
  have e := hi 186 (by decide) (by decide)
  rw [hh, e]
  refine ⟨h1, h2, fun h9 => (h3 h9).fr (fun i a b => hi _ (by omega) (by omega)) (fun j hj => ha _ (by omega))⟩
theorem RR.put {TS : Sg → Prop} {g g' : Sg} (hT : TSf TS) (h : RR TS g) (hn : RT g' (g' 216)) (hi : ∀ i, 48 ≤ i → i ≤ 186 → g' i = g i) (ha : ∀ j, 5090 ≤ j → g' 216 j = g 216 j) (hh : g' 217 = g 217) (ht : ∀ i, 208 ≤ i → (i ≤ 214 ∨ (229 ≤ i ∧ i ≤ 230)) → g' i = g i) : RR TS g' :=
  ⟨hn, h.img.fr hi ha hh, hT _ _ ht h.trn⟩
theorem RR.scr {TS : Sg → Prop} {g g' : Sg} (hT : TSf TS) (h : RR TS g) (hc : ∀ i, 2 ≤ i → i ≤ 186 → g' i = g i) (ht : ∀ i, 208 ≤ i → (i ≤ 214 ∨ (229 ≤ i ∧ i ≤ 230)) → g' i = g i) (ha : g' 216 = g 216) (hh : g' 217 = g 217) : RR TS g' :=
  ⟨h.now.fr (fun i a b => hc i a (by omega)) (fun j _ => by rw [ha]), h.img.fr (fun i a b => hc i (by omega) b) (fun j _ => by rw [ha]) hh, hT _ _ ht h.trn⟩
theorem u2n {g : Sg} {a i b : Nat} {v : Int32} (h : b ≠ a) : up2 g a i v b = g b := by
  funext j
  exact if_neg (fun e => h e.1)
def up1 (f : Nat → Int32) (i : Nat) (v : Int32) : Nat → Int32 := fun j => if j = i then v else f j
theorem u2e {g : Sg} {a i : Nat} {v : Int32} : up2 g a i v a = up1 (g a) i v := by
  funext j
  show (if a = a ∧ j = i then v else g a j) = if j = i then v else g a j
  simp
theorem up1_eq {f : Nat → Int32} {i : Nat} {v : Int32} : up1 f i v i = v := if_pos rfl
theorem up1_ne {f : Nat → Int32} {i j : Nat} {v : Int32} (h : j ≠ i) : up1 f i v j = f j := if_neg h
