/-! what a node does to the relation -/
theorem i_swap (a b d : Int32) : a + b + d = a + d + b := by rw [Int32.add_assoc, Int32.add_comm b, ← Int32.add_assoc]
theorem i_addsub (a b : Int32) : a + (b - a) = b := by rw [Int32.add_comm, Int32.sub_add_cancel]
theorem sumTo_u {f : Nat → Int32} {i : Nat} {v : Int32} : ∀ {n : Nat}, i < n → sumTo (up1 f i v) n = sumTo f n + (v - f i)
  | 0, h => absurd h (Nat.not_lt_zero _)
  | n + 1, h => by
    show sumTo (up1 f i v) n + up1 f i v n = sumTo f n + f n + (v - f i)
    by_cases e : i = n
    · subst e
      rw [up1_eq, sumTo_congr (f := up1 f i v) (f' := f) (fun j hj => up1_ne (by omega)), Int32.add_assoc, i_addsub]
    · rw [up1_ne (by omega), sumTo_u (show i < n by omega), i_swap]
theorem sumKind {f f2 k3 k3' : Nat → Int32} {v : Nat} {K k2 : Int32} (hv : v < 10) (h3 : k3' = k3) (h : ∀ n, n < 10 → f2 n = if n = v then k2 else f n) : sumTo (fun n => if k3' n = K then f2 n else 0) 10 = sumTo (fun n => if k3 n = K then f n else 0) 10 + (if k3 v = K then k2 - f v else 0) := by
  subst h3
  have e : sumTo (fun n => if k3' n = K then f2 n else 0) 10 = sumTo (up1 (fun n => if k3' n = K then f n else 0) v (if k3' v = K then k2 else 0)) 10 := sumTo_congr (fun n hn => by
    by_cases q : n = v
    · subst q
      rw [up1_eq]
      show (if k3' n = K then f2 n else 0) = _
      rw [h n hn, if_pos rfl]
    · rw [up1_ne q]
      show (if k3' n = K then f2 n else 0) = _
      rw [h n hn, if_neg q])
  rw [e, sumTo_u hv]
  congr 1
  show (if k3' v = K then k2 else 0) - (if k3' v = K then f v else 0) = _
  by_cases q : k3' v = K
  · rw [if_pos q, if_pos q, if_pos q]
  · rw [if_neg q, if_neg q, if_neg q]
    rfl
theorem i_asc (s f y : Int32) : s + (f + y - f) = s + y := by rw [Int32.add_comm f, Int32.add_sub_cancel]
theorem RNet.node0 {c c' : Sg} {a a' : Nat → Int32} {N C Q v : Nat} {k2 sp : Int32} (h : RNet c a N C Q) (hvN : v < N) (hc : ∀ i, 2 ≤ i → i ≤ 21 → i ≠ 7 → i ≠ 19 → c' i = c i) (k7 : ∀ n, n < 10 → c' 7 n = if n = v then k2 else c 7 n) (s0 : c' 19 0 = c 19 0 + sp) (s1 : c' 19 1 = c 19 1) (b3 : a' (140 + 5 * v + 3) = k2) (t14 : a' 14 = a 14 + sp) (t10 : a' 10 = a 10 + (if c 3 v = 0 then k2 - c 7 v else 0)) (t11 : a' 11 = a 11 + (if c 3 v = 4 then k2 - c 7 v else 0)) (t12 : a' 12 = a 12 + (if c 3 v = 2 then k2 - c 7 v else 0)) (ha : ∀ j, iNet j → j ≠ 140 + 5 * v + 3 → j ≠ 14 → j ≠ 10 → j ≠ 11 → j ≠ 12 → a' j = a j) : RNet c' a' N C Q := by
  have hN := h.hN
  have hv : v < 10 := by omega
  have e2 := hc 2 (by decide) (by decide) (by decide) (by decide)
  have e3 := hc 3 (by decide) (by decide) (by decide) (by decide)
  have e4 := hc 4 (by decide) (by decide) (by decide) (by decide)
  have e5 := hc 5 (by decide) (by decide) (by decide) (by decide)
  have e8 := hc 8 (by decide) (by decide) (by decide) (by decide)
  have e9 := hc 9 (by decide) (by decide) (by decide) (by decide)
  have e10 := hc 10 (by decide) (by decide) (by decide) (by decide)
  have e11 := hc 11 (by decide) (by decide) (by decide) (by decide)
  have e12 := hc 12 (by decide) (by decide) (by decide) (by decide)
  have e13 := hc 13 (by decide) (by decide) (by decide) (by decide)
  have e14 := hc 14 (by decide) (by decide) (by decide) (by decide)
  have e15 := hc 15 (by decide) (by decide) (by decide) (by decide)
  have e17 := hc 17 (by decide) (by decide) (by decide) (by decide)
  have e18 := hc 18 (by decide) (by decide) (by decide) (by decide)
  have e20 := hc 20 (by decide) (by decide) (by decide) (by decide)
  have e21 := hc 21 (by decide) (by decide) (by decide) (by decide)
  have A := ha
  apply RNet.mk
  case hN => exact h.hN
  case hC => exact h.hC
  case hQ => exact h.hQ
  case cN => rw [e2]; exact h.cN
  case aN => rw [A _ (by unfold iNet; omega) (by omega) (by omega) (by omega) (by omega) (by omega)]; exact h.aN
  case cC => rw [e2]; exact h.cC
  case aC => rw [A _ (by unfold iNet; omega) (by omega) (by omega) (by omega) (by omega) (by omega)]; exact h.aC
  case cQ => rw [e2]; exact h.cQ
  case aQ => rw [A _ (by unfold iNet; omega) (by omega) (by omega) (by omega) (by omega) (by omega)]; exact h.aQ
  case kind => intro n hn; rw [A _ (by unfold iNet; omega) (by omega) (by omega) (by omega) (by omega) (by omega), e3]; exact h.kind n hn
  case size => intro n hn; rw [A _ (by unfold iNet; omega) (by omega) (by omega) (by omega) (by omega) (by omega), e4]; exact h.size n hn
  case gate => intro n hn; rw [A _ (by unfold iNet; omega) (by omega) (by omega) (by omega) (by omega) (by omega), e5]; exact h.gate n hn
  case kep0 => 
    intro n hn
    rw [k7 n hn]
    by_cases e : n = v
    · rw [if_pos e, e]; exact b3
    · rw [if_neg e, A _ (by unfold iNet; omega) (by omega) (by omega) (by omega) (by omega) (by omega)]; exact h.kep0 n hn
  case kep1 => intro n hn; rw [A _ (by unfold iNet; omega) (by omega) (by omega) (by omega) (by omega) (by omega), e8]; exact h.kep1 n hn
  case frm => intro n hn; rw [A _ (by unfold iNet; omega) (by omega) (by omega) (by omega) (by omega) (by omega), e9]; exact h.frm n hn
  case to => intro n hn; rw [A _ (by unfold iNet; omega) (by omega) (by omega) (by omega) (by omega) (by omega), e10]; exact h.to n hn
  case low => intro n hn; rw [A _ (by unfold iNet; omega) (by omega) (by omega) (by omega) (by omega) (by omega), e11]; exact h.low n hn
  case hig => intro n hn; rw [A _ (by unfold iNet; omega) (by omega) (by omega) (by omega) (by omega) (by omega), e12]; exact h.hig n hn
  case trv => intro n hn; rw [A _ (by unfold iNet; omega) (by omega) (by omega) (by omega) (by omega) (by omega), e13]; exact h.trv n hn
  case brd => intro n hn; rw [A _ (by unfold iNet; omega) (by omega) (by omega) (by omega) (by omega) (by omega), e14]; exact h.brd n hn
  case brk => intro n hn; rw [A _ (by unfold iNet; omega) (by omega) (by omega) (by omega) (by omega) (by omega), e15]; exact h.brk n hn
  case way0 => intro n hn; rw [A _ (by unfold iNet; omega) (by omega) (by omega) (by omega) (by omega) (by omega), e17]; exact h.way0 n hn
  case way1 => intro n hn; rw [A _ (by unfold iNet; omega) (by omega) (by omega) (by omega) (by omega) (by omega), e18]; exact h.way1 n hn
  case gateV => rw [e5, e9]; exact h.gateV
  case ends => rw [e9, e10]; exact h.ends
  case lowV => rw [e11]; exact h.lowV
  case higV => rw [e12]; exact h.higV
  case trvV => rw [e13]; exact h.trvV
  case brdV => rw [e14]; exact h.brdV
  case brkV => rw [e15]; exact h.brkV
  case kindV => rw [e3]; exact h.kindV
  case kepZ => 
    intro n h1 h2
    rw [k7 n h2, if_neg (by omega), e8]
    exact h.kepZ n h1 h2
  case brkZ => rw [e15]; exact h.brkZ
  case wayZ => rw [e17, e18]; exact h.wayZ
  case su00 => rw [t10, h.su00]; exact (sumKind hv (k3' := c' 3) e3 k7).symm
  case su01 => rw [t11, h.su01]; exact (sumKind hv (k3' := c' 3) e3 k7).symm
  case su02 => rw [t12, h.su02]; exact (sumKind hv (k3' := c' 3) e3 k7).symm
  case su03 => rw [A _ (by unfold iNet; omega) (by omega) (by omega) (by omega) (by omega) (by omega), e17]; exact h.su03
  case su04 => rw [t14, s0, h.su04]
  case su05 => rw [A _ (by unfold iNet; omega) (by omega) (by omega) (by omega) (by omega) (by omega), e20]; exact h.su05
  case su06 => rw [A _ (by unfold iNet; omega) (by omega) (by omega) (by omega) (by omega) (by omega), e21]; exact h.su06
  case su10 => rw [A _ (by unfold iNet; omega) (by omega) (by omega) (by omega) (by omega) (by omega), e3, e8]; exact h.su10
  case su11 => rw [A _ (by unfold iNet; omega) (by omega) (by omega) (by omega) (by omega) (by omega), e3, e8]; exact h.su11
  case su12 => rw [A _ (by unfold iNet; omega) (by omega) (by omega) (by omega) (by omega) (by omega), e3, e8]; exact h.su12
  case su13 => rw [A _ (by unfold iNet; omega) (by omega) (by omega) (by omega) (by omega) (by omega), e18]; exact h.su13
  case su14 => rw [A _ (by unfold iNet; omega) (by omega) (by omega) (by omega) (by omega) (by omega), s1]; exact h.su14
  case su15 => rw [A _ (by unfold iNet; omega) (by omega) (by omega) (by omega) (by omega) (by omega), e20]; exact h.su15
  case su16 => rw [A _ (by unfold iNet; omega) (by omega) (by omega) (by omega) (by omega) (by omega), e21]; exact h.su16
theorem RNet.send0 {c c' : Sg} {a a' : Nat → Int32} {N C Q j p : Nat} {lk y : Int32} (h : RNet c a N C Q) (hj : j < C) (hp1 : j * 9 ≤ p) (hp2 : p < j * 9 + 9) (hc : ∀ i, 2 ≤ i → i ≤ 21 → i ≠ 17 → i ≠ 20 → c' i = c i) (e17 : c' 17 = up1 (c 17) p (c 17 p + y)) (s0 : c' 20 0 = c 20 0 + lk) (s1 : c' 20 1 = c 20 1) (b3 : a' (290 + p) = a (290 + p) + y) (t13 : a' 13 = a 13 + y) (t15 : a' 15 = a 15 + lk) (ha : ∀ j, iNet j → j ≠ 290 + p → j ≠ 13 → j ≠ 15 → a' j = a j) : RNet c' a' N C Q := by
  have hC := h.hC
  have e2 := hc 2 (by decide) (by decide) (by decide) (by decide)
  have e3 := hc 3 (by decide) (by decide) (by decide) (by decide)
  have e4 := hc 4 (by decide) (by decide) (by decide) (by decide)
  have e5 := hc 5 (by decide) (by decide) (by decide) (by decide)
  have e7 := hc 7 (by decide) (by decide) (by decide) (by decide)
  have e8 := hc 8 (by decide) (by decide) (by decide) (by decide)
  have e9 := hc 9 (by decide) (by decide) (by decide) (by decide)
  have e10 := hc 10 (by decide) (by decide) (by decide) (by decide)
  have e11 := hc 11 (by decide) (by decide) (by decide) (by decide)
  have e12 := hc 12 (by decide) (by decide) (by decide) (by decide)
  have e13 := hc 13 (by decide) (by decide) (by decide) (by decide)
  have e14 := hc 14 (by decide) (by decide) (by decide) (by decide)
  have e15 := hc 15 (by decide) (by decide) (by decide) (by decide)
  have e18 := hc 18 (by decide) (by decide) (by decide) (by decide)
  have e19 := hc 19 (by decide) (by decide) (by decide) (by decide)
  have e21 := hc 21 (by decide) (by decide) (by decide) (by decide)
  have A := ha
  apply RNet.mk
  case hN => exact h.hN
  case hC => exact h.hC
  case hQ => exact h.hQ
  case cN => rw [e2]; exact h.cN
  case aN => rw [A _ (by unfold iNet; omega) (by omega) (by omega) (by omega)]; exact h.aN
  case cC => rw [e2]; exact h.cC
  case aC => rw [A _ (by unfold iNet; omega) (by omega) (by omega) (by omega)]; exact h.aC
  case cQ => rw [e2]; exact h.cQ
  case aQ => rw [A _ (by unfold iNet; omega) (by omega) (by omega) (by omega)]; exact h.aQ
  case kind => intro n hn; rw [A _ (by unfold iNet; omega) (by omega) (by omega) (by omega), e3]; exact h.kind n hn
  case size => intro n hn; rw [A _ (by unfold iNet; omega) (by omega) (by omega) (by omega), e4]; exact h.size n hn
  case gate => intro n hn; rw [A _ (by unfold iNet; omega) (by omega) (by omega) (by omega), e5]; exact h.gate n hn
  case kep0 => intro n hn; rw [A _ (by unfold iNet; omega) (by omega) (by omega) (by omega), e7]; exact h.kep0 n hn
  case kep1 => intro n hn; rw [A _ (by unfold iNet; omega) (by omega) (by omega) (by omega), e8]; exact h.kep1 n hn
  case frm => intro n hn; rw [A _ (by unfold iNet; omega) (by omega) (by omega) (by omega), e9]; exact h.frm n hn
  case to => intro n hn; rw [A _ (by unfold iNet; omega) (by omega) (by omega) (by omega), e10]; exact h.to n hn
  case low => intro n hn; rw [A _ (by unfold iNet; omega) (by omega) (by omega) (by omega), e11]; exact h.low n hn
  case hig => intro n hn; rw [A _ (by unfold iNet; omega) (by omega) (by omega) (by omega), e12]; exact h.hig n hn
  case trv => intro n hn; rw [A _ (by unfold iNet; omega) (by omega) (by omega) (by omega), e13]; exact h.trv n hn
  case brd => intro n hn; rw [A _ (by unfold iNet; omega) (by omega) (by omega) (by omega), e14]; exact h.brd n hn
  case brk => intro n hn; rw [A _ (by unfold iNet; omega) (by omega) (by omega) (by omega), e15]; exact h.brk n hn
  case way0 => 
    intro i hi
    rw [e17]
    by_cases e : i = p
    · subst e; rw [up1_eq, b3, h.way0 i hi]
    · rw [up1_ne e, A _ (by unfold iNet; omega) (by omega) (by omega) (by omega)]; exact h.way0 i hi
  case way1 => intro n hn; rw [A _ (by unfold iNet; omega) (by omega) (by omega) (by omega), e18]; exact h.way1 n hn
  case gateV => rw [e5, e9]; exact h.gateV
  case ends => rw [e9, e10]; exact h.ends
  case lowV => rw [e11]; exact h.lowV
  case higV => rw [e12]; exact h.higV
  case trvV => rw [e13]; exact h.trvV
  case brdV => rw [e14]; exact h.brdV
  case brkV => rw [e15]; exact h.brkV
  case kindV => rw [e3]; exact h.kindV
  case kepZ => rw [e7, e8]; exact h.kepZ
  case brkZ => rw [e15]; exact h.brkZ
  case wayZ => 
    intro i h1 h2
    rw [e17, up1_ne (by omega), e18]
    exact h.wayZ i h1 h2
  case su00 => rw [A _ (by unfold iNet; omega) (by omega) (by omega) (by omega), e3, e7]; exact h.su00
  case su01 => rw [A _ (by unfold iNet; omega) (by omega) (by omega) (by omega), e3, e7]; exact h.su01
  case su02 => rw [A _ (by unfold iNet; omega) (by omega) (by omega) (by omega), e3, e7]; exact h.su02
  case su03 => rw [t13, e17, h.su03, sumTo_u (by omega), i_asc]
  case su04 => rw [A _ (by unfold iNet; omega) (by omega) (by omega) (by omega), e19]; exact h.su04
  case su05 => rw [t15, s0, h.su05]
  case su06 => rw [A _ (by unfold iNet; omega) (by omega) (by omega) (by omega), e21]; exact h.su06
  case su10 => rw [A _ (by unfold iNet; omega) (by omega) (by omega) (by omega), e3, e8]; exact h.su10
  case su11 => rw [A _ (by unfold iNet; omega) (by omega) (by omega) (by omega), e3, e8]; exact h.su11
  case su12 => rw [A _ (by unfold iNet; omega) (by omega) (by omega) (by omega), e3, e8]; exact h.su12
  case su13 => rw [A _ (by unfold iNet; omega) (by omega) (by omega) (by omega), e18]; exact h.su13
  case su14 => rw [A _ (by unfold iNet; omega) (by omega) (by omega) (by omega), e19]; exact h.su14
  case su15 => rw [A _ (by unfold iNet; omega) (by omega) (by omega) (by omega), s1]; exact h.su15
  case su16 => rw [A _ (by unfold iNet; omega) (by omega) (by omega) (by omega), e21]; exact h.su16
theorem RNet.lost0 {c c' : Sg} {a a' : Nat → Int32} {N C Q : Nat} {x : Int32} (h : RNet c a N C Q) (hc : ∀ i, 2 ≤ i → i ≤ 21 → i ≠ 21 → c' i = c i) (s0 : c' 21 0 = c 21 0 + x) (s1 : c' 21 1 = c 21 1) (t16 : a' 16 = a 16 + x) (ha : ∀ j, iNet j → j ≠ 16 → a' j = a j) : RNet c' a' N C Q := by
  have e2 := hc 2 (by decide) (by decide) (by decide)
  have e3 := hc 3 (by decide) (by decide) (by decide)
  have e4 := hc 4 (by decide) (by decide) (by decide)
  have e5 := hc 5 (by decide) (by decide) (by decide)
  have e7 := hc 7 (by decide) (by decide) (by decide)
  have e8 := hc 8 (by decide) (by decide) (by decide)
  have e9 := hc 9 (by decide) (by decide) (by decide)
  have e10 := hc 10 (by decide) (by decide) (by decide)
  have e11 := hc 11 (by decide) (by decide) (by decide)
  have e12 := hc 12 (by decide) (by decide) (by decide)
  have e13 := hc 13 (by decide) (by decide) (by decide)
  have e14 := hc 14 (by decide) (by decide) (by decide)
  have e15 := hc 15 (by decide) (by decide) (by decide)
  have e17 := hc 17 (by decide) (by decide) (by decide)
  have e18 := hc 18 (by decide) (by decide) (by decide)
  have e19 := hc 19 (by decide) (by decide) (by decide)
  have e20 := hc 20 (by decide) (by decide) (by decide)
  have A := ha
  apply RNet.mk
  case hN => exact h.hN
  case hC => exact h.hC
  case hQ => exact h.hQ
  case cN => rw [e2]; exact h.cN
  case aN => rw [A _ (by unfold iNet; omega) (by omega)]; exact h.aN
  case cC => rw [e2]; exact h.cC
  case aC => rw [A _ (by unfold iNet; omega) (by omega)]; exact h.aC
  case cQ => rw [e2]; exact h.cQ
  case aQ => rw [A _ (by unfold iNet; omega) (by omega)]; exact h.aQ
  case kind => intro n hn; rw [A _ (by unfold iNet; omega) (by omega), e3]; exact h.kind n hn
  case size => intro n hn; rw [A _ (by unfold iNet; omega) (by omega), e4]; exact h.size n hn
  case gate => intro n hn; rw [A _ (by unfold iNet; omega) (by omega), e5]; exact h.gate n hn
  case kep0 => intro n hn; rw [A _ (by unfold iNet; omega) (by omega), e7]; exact h.kep0 n hn
  case kep1 => intro n hn; rw [A _ (by unfold iNet; omega) (by omega), e8]; exact h.kep1 n hn
  case frm => intro n hn; rw [A _ (by unfold iNet; omega) (by omega), e9]; exact h.frm n hn
  case to => intro n hn; rw [A _ (by unfold iNet; omega) (by omega), e10]; exact h.to n hn
  case low => intro n hn; rw [A _ (by unfold iNet; omega) (by omega), e11]; exact h.low n hn
  case hig => intro n hn; rw [A _ (by unfold iNet; omega) (by omega), e12]; exact h.hig n hn
  case trv => intro n hn; rw [A _ (by unfold iNet; omega) (by omega), e13]; exact h.trv n hn
  case brd => intro n hn; rw [A _ (by unfold iNet; omega) (by omega), e14]; exact h.brd n hn
  case brk => intro n hn; rw [A _ (by unfold iNet; omega) (by omega), e15]; exact h.brk n hn
  case way0 => intro n hn; rw [A _ (by unfold iNet; omega) (by omega), e17]; exact h.way0 n hn
  case way1 => intro n hn; rw [A _ (by unfold iNet; omega) (by omega), e18]; exact h.way1 n hn
  case gateV => rw [e5, e9]; exact h.gateV
  case ends => rw [e9, e10]; exact h.ends
  case lowV => rw [e11]; exact h.lowV
  case higV => rw [e12]; exact h.higV
  case trvV => rw [e13]; exact h.trvV
  case brdV => rw [e14]; exact h.brdV
  case brkV => rw [e15]; exact h.brkV
  case kindV => rw [e3]; exact h.kindV
  case kepZ => rw [e7, e8]; exact h.kepZ
  case brkZ => rw [e15]; exact h.brkZ
  case wayZ => rw [e17, e18]; exact h.wayZ
  case su00 => rw [A _ (by unfold iNet; omega) (by omega), e3, e7]; exact h.su00
  case su01 => rw [A _ (by unfold iNet; omega) (by omega), e3, e7]; exact h.su01
  case su02 => rw [A _ (by unfold iNet; omega) (by omega), e3, e7]; exact h.su02
  case su03 => rw [A _ (by unfold iNet; omega) (by omega), e17]; exact h.su03
  case su04 => rw [A _ (by unfold iNet; omega) (by omega), e19]; exact h.su04
  case su05 => rw [A _ (by unfold iNet; omega) (by omega), e20]; exact h.su05
  case su06 => rw [t16, s0, h.su06]
  case su10 => rw [A _ (by unfold iNet; omega) (by omega), e3, e8]; exact h.su10
  case su11 => rw [A _ (by unfold iNet; omega) (by omega), e3, e8]; exact h.su11
  case su12 => rw [A _ (by unfold iNet; omega) (by omega), e3, e8]; exact h.su12
  case su13 => rw [A _ (by unfold iNet; omega) (by omega), e18]; exact h.su13
  case su14 => rw [A _ (by unfold iNet; omega) (by omega), e19]; exact h.su14
  case su15 => rw [A _ (by unfold iNet; omega) (by omega), e20]; exact h.su15
  case su16 => rw [A _ (by unfold iNet; omega) (by omega), s1]; exact h.su16
theorem RNet.arr0 {c c' : Sg} {a a' : Nat → Int32} {N C Q : Nat} {x : Int32} (h : RNet c a N C Q) (hc : ∀ i, 2 ≤ i → i ≤ 21 → i ≠ 17 → c' i = c i) (b3 : ∀ i, i < 126 → a' (290 + i) = c' 17 i) (hz : ∀ i, c 17 i = 0 → c' 17 i = 0) (hs : sumTo (c' 17) 126 + x = sumTo (c 17) 126) (t13 : a' 13 = a 13 + -x) (ha : ∀ j, iNet j → (j < 290 ∨ 290 + 126 ≤ j) → j ≠ 13 → a' j = a j) : RNet c' a' N C Q := by
  have hC := h.hC
  have e2 := hc 2 (by decide) (by decide) (by decide)
  have e3 := hc 3 (by decide) (by decide) (by decide)
  have e4 := hc 4 (by decide) (by decide) (by decide)
  have e5 := hc 5 (by decide) (by decide) (by decide)
  have e7 := hc 7 (by decide) (by decide) (by decide)
  have e8 := hc 8 (by decide) (by decide) (by decide)
  have e9 := hc 9 (by decide) (by decide) (by decide)
  have e10 := hc 10 (by decide) (by decide) (by decide)
  have e11 := hc 11 (by decide) (by decide) (by decide)
  have e12 := hc 12 (by decide) (by decide) (by decide)
  have e13 := hc 13 (by decide) (by decide) (by decide)
  have e14 := hc 14 (by decide) (by decide) (by decide)
  have e15 := hc 15 (by decide) (by decide) (by decide)
  have e18 := hc 18 (by decide) (by decide) (by decide)
  have e19 := hc 19 (by decide) (by decide) (by decide)
  have e20 := hc 20 (by decide) (by decide) (by decide)
  have e21 := hc 21 (by decide) (by decide) (by decide)
  have A := ha
  apply RNet.mk
  case hN => exact h.hN
  case hC => exact h.hC
  case hQ => exact h.hQ
  case cN => rw [e2]; exact h.cN
  case aN => rw [A _ (by unfold iNet; omega) (by omega) (by omega)]; exact h.aN
  case cC => rw [e2]; exact h.cC
  case aC => rw [A _ (by unfold iNet; omega) (by omega) (by omega)]; exact h.aC
  case cQ => rw [e2]; exact h.cQ
  case aQ => rw [A _ (by unfold iNet; omega) (by omega) (by omega)]; exact h.aQ
  case kind => intro n hn; rw [A _ (by unfold iNet; omega) (by omega) (by omega), e3]; exact h.kind n hn
  case size => intro n hn; rw [A _ (by unfold iNet; omega) (by omega) (by omega), e4]; exact h.size n hn
  case gate => intro n hn; rw [A _ (by unfold iNet; omega) (by omega) (by omega), e5]; exact h.gate n hn
  case kep0 => intro n hn; rw [A _ (by unfold iNet; omega) (by omega) (by omega), e7]; exact h.kep0 n hn
  case kep1 => intro n hn; rw [A _ (by unfold iNet; omega) (by omega) (by omega), e8]; exact h.kep1 n hn
  case frm => intro n hn; rw [A _ (by unfold iNet; omega) (by omega) (by omega), e9]; exact h.frm n hn
  case to => intro n hn; rw [A _ (by unfold iNet; omega) (by omega) (by omega), e10]; exact h.to n hn
  case low => intro n hn; rw [A _ (by unfold iNet; omega) (by omega) (by omega), e11]; exact h.low n hn
  case hig => intro n hn; rw [A _ (by unfold iNet; omega) (by omega) (by omega), e12]; exact h.hig n hn
  case trv => intro n hn; rw [A _ (by unfold iNet; omega) (by omega) (by omega), e13]; exact h.trv n hn
  case brd => intro n hn; rw [A _ (by unfold iNet; omega) (by omega) (by omega), e14]; exact h.brd n hn
  case brk => intro n hn; rw [A _ (by unfold iNet; omega) (by omega) (by omega), e15]; exact h.brk n hn
  case way0 => exact b3
  case way1 => intro n hn; rw [A _ (by unfold iNet; omega) (by omega) (by omega), e18]; exact h.way1 n hn
  case gateV => rw [e5, e9]; exact h.gateV
  case ends => rw [e9, e10]; exact h.ends
  case lowV => rw [e11]; exact h.lowV
  case higV => rw [e12]; exact h.higV
  case trvV => rw [e13]; exact h.trvV
  case brdV => rw [e14]; exact h.brdV
  case brkV => rw [e15]; exact h.brkV
  case kindV => rw [e3]; exact h.kindV
  case kepZ => rw [e7, e8]; exact h.kepZ
  case brkZ => rw [e15]; exact h.brkZ
  case wayZ => 
    intro i h1 h2
    rw [e18]
    exact ⟨hz i (h.wayZ i h1 h2).1, (h.wayZ i h1 h2).2⟩
  case su00 => rw [A _ (by unfold iNet; omega) (by omega) (by omega), e3, e7]; exact h.su00
  case su01 => rw [A _ (by unfold iNet; omega) (by omega) (by omega), e3, e7]; exact h.su01
  case su02 => rw [A _ (by unfold iNet; omega) (by omega) (by omega), e3, e7]; exact h.su02
  case su03 => rw [t13, h.su03, ← hs, ← Int32.sub_eq_add_neg, Int32.add_sub_cancel]
  case su04 => rw [A _ (by unfold iNet; omega) (by omega) (by omega), e19]; exact h.su04
  case su05 => rw [A _ (by unfold iNet; omega) (by omega) (by omega), e20]; exact h.su05
  case su06 => rw [A _ (by unfold iNet; omega) (by omega) (by omega), e21]; exact h.su06
  case su10 => rw [A _ (by unfold iNet; omega) (by omega) (by omega), e3, e8]; exact h.su10
  case su11 => rw [A _ (by unfold iNet; omega) (by omega) (by omega), e3, e8]; exact h.su11
  case su12 => rw [A _ (by unfold iNet; omega) (by omega) (by omega), e3, e8]; exact h.su12
  case su13 => rw [A _ (by unfold iNet; omega) (by omega) (by omega), e18]; exact h.su13
  case su14 => rw [A _ (by unfold iNet; omega) (by omega) (by omega), e19]; exact h.su14
  case su15 => rw [A _ (by unfold iNet; omega) (by omega) (by omega), e20]; exact h.su15
  case su16 => rw [A _ (by unfold iNet; omega) (by omega) (by omega), e21]; exact h.su16
theorem RNet.node1 {c c' : Sg} {a a' : Nat → Int32} {N C Q v : Nat} {k2 sp : Int32} (h : RNet c a N C Q) (hvN : v < N) (hc : ∀ i, 2 ≤ i → i ≤ 21 → i ≠ 8 → i ≠ 19 → c' i = c i) (k7 : ∀ n, n < 10 → c' 8 n = if n = v then k2 else c 8 n) (s0 : c' 19 1 = c 19 1 + sp) (s1 : c' 19 0 = c 19 0) (b3 : a' (140 + 5 * v + 4) = k2) (t14 : a' 21 = a 21 + sp) (t10 : a' 17 = a 17 + (if c 3 v = 0 then k2 - c 8 v else 0)) (t11 : a' 18 = a 18 + (if c 3 v = 4 then k2 - c 8 v else 0)) (t12 : a' 19 = a 19 + (if c 3 v = 2 then k2 - c 8 v else 0)) (ha : ∀ j, iNet j → j ≠ 140 + 5 * v + 4 → j ≠ 21 → j ≠ 17 → j ≠ 18 → j ≠ 19 → a' j = a j) : RNet c' a' N C Q := by
  have hN := h.hN
  have hv : v < 10 := by omega
  have e2 := hc 2 (by decide) (by decide) (by decide) (by decide)
  have e3 := hc 3 (by decide) (by decide) (by decide) (by decide)
  have e4 := hc 4 (by decide) (by decide) (by decide) (by decide)
  have e5 := hc 5 (by decide) (by decide) (by decide) (by decide)
  have e7 := hc 7 (by decide) (by decide) (by decide) (by decide)
  have e9 := hc 9 (by decide) (by decide) (by decide) (by decide)
  have e10 := hc 10 (by decide) (by decide) (by decide) (by decide)
  have e11 := hc 11 (by decide) (by decide) (by decide) (by decide)
  have e12 := hc 12 (by decide) (by decide) (by decide) (by decide)
  have e13 := hc 13 (by decide) (by decide) (by decide) (by decide)
  have e14 := hc 14 (by decide) (by decide) (by decide) (by decide)
  have e15 := hc 15 (by decide) (by decide) (by decide) (by decide)
  have e17 := hc 17 (by decide) (by decide) (by decide) (by decide)
  have e18 := hc 18 (by decide) (by decide) (by decide) (by decide)
  have e20 := hc 20 (by decide) (by decide) (by decide) (by decide)
  have e21 := hc 21 (by decide) (by decide) (by decide) (by decide)
  have A := ha
  apply RNet.mk
  case hN => exact h.hN
  case hC => exact h.hC
  case hQ => exact h.hQ
  case cN => rw [e2]; exact h.cN
  case aN => rw [A _ (by unfold iNet; omega) (by omega) (by omega) (by omega) (by omega) (by omega)]; exact h.aN
  case cC => rw [e2]; exact h.cC
  case aC => rw [A _ (by unfold iNet; omega) (by omega) (by omega) (by omega) (by omega) (by omega)]; exact h.aC
  case cQ => rw [e2]; exact h.cQ
  case aQ => rw [A _ (by unfold iNet; omega) (by omega) (by omega) (by omega) (by omega) (by omega)]; exact h.aQ
  case kind => intro n hn; rw [A _ (by unfold iNet; omega) (by omega) (by omega) (by omega) (by omega) (by omega), e3]; exact h.kind n hn
  case size => intro n hn; rw [A _ (by unfold iNet; omega) (by omega) (by omega) (by omega) (by omega) (by omega), e4]; exact h.size n hn
  case gate => intro n hn; rw [A _ (by unfold iNet; omega) (by omega) (by omega) (by omega) (by omega) (by omega), e5]; exact h.gate n hn
  case kep0 => intro n hn; rw [A _ (by unfold iNet; omega) (by omega) (by omega) (by omega) (by omega) (by omega), e7]; exact h.kep0 n hn
  case kep1 => 
    intro n hn
    rw [k7 n hn]
    by_cases e : n = v
    · rw [if_pos e, e]; exact b3
    · rw [if_neg e, A _ (by unfold iNet; omega) (by omega) (by omega) (by omega) (by omega) (by omega)]; exact h.kep1 n hn
  case frm => intro n hn; rw [A _ (by unfold iNet; omega) (by omega) (by omega) (by omega) (by omega) (by omega), e9]; exact h.frm n hn
  case to => intro n hn; rw [A _ (by unfold iNet; omega) (by omega) (by omega) (by omega) (by omega) (by omega), e10]; exact h.to n hn
  case low => intro n hn; rw [A _ (by unfold iNet; omega) (by omega) (by omega) (by omega) (by omega) (by omega), e11]; exact h.low n hn
  case hig => intro n hn; rw [A _ (by unfold iNet; omega) (by omega) (by omega) (by omega) (by omega) (by omega), e12]; exact h.hig n hn
  case trv => intro n hn; rw [A _ (by unfold iNet; omega) (by omega) (by omega) (by omega) (by omega) (by omega), e13]; exact h.trv n hn
  case brd => intro n hn; rw [A _ (by unfold iNet; omega) (by omega) (by omega) (by omega) (by omega) (by omega), e14]; exact h.brd n hn
  case brk => intro n hn; rw [A _ (by unfold iNet; omega) (by omega) (by omega) (by omega) (by omega) (by omega), e15]; exact h.brk n hn
  case way0 => intro n hn; rw [A _ (by unfold iNet; omega) (by omega) (by omega) (by omega) (by omega) (by omega), e17]; exact h.way0 n hn
  case way1 => intro n hn; rw [A _ (by unfold iNet; omega) (by omega) (by omega) (by omega) (by omega) (by omega), e18]; exact h.way1 n hn
  case gateV => rw [e5, e9]; exact h.gateV
  case ends => rw [e9, e10]; exact h.ends
  case lowV => rw [e11]; exact h.lowV
  case higV => rw [e12]; exact h.higV
  case trvV => rw [e13]; exact h.trvV
  case brdV => rw [e14]; exact h.brdV
  case brkV => rw [e15]; exact h.brkV
  case kindV => rw [e3]; exact h.kindV
  case kepZ => 
    intro n h1 h2
    rw [k7 n h2, if_neg (by omega), e7]
    exact h.kepZ n h1 h2
  case brkZ => rw [e15]; exact h.brkZ
  case wayZ => rw [e17, e18]; exact h.wayZ
  case su00 => rw [A _ (by unfold iNet; omega) (by omega) (by omega) (by omega) (by omega) (by omega), e3, e7]; exact h.su00
  case su01 => rw [A _ (by unfold iNet; omega) (by omega) (by omega) (by omega) (by omega) (by omega), e3, e7]; exact h.su01
  case su02 => rw [A _ (by unfold iNet; omega) (by omega) (by omega) (by omega) (by omega) (by omega), e3, e7]; exact h.su02
  case su03 => rw [A _ (by unfold iNet; omega) (by omega) (by omega) (by omega) (by omega) (by omega), e17]; exact h.su03
  case su04 => rw [A _ (by unfold iNet; omega) (by omega) (by omega) (by omega) (by omega) (by omega), s1]; exact h.su04
  case su05 => rw [A _ (by unfold iNet; omega) (by omega) (by omega) (by omega) (by omega) (by omega), e20]; exact h.su05
  case su06 => rw [A _ (by unfold iNet; omega) (by omega) (by omega) (by omega) (by omega) (by omega), e21]; exact h.su06
  case su10 => rw [t10, h.su10]; exact (sumKind hv (k3' := c' 3) e3 k7).symm
  case su11 => rw [t11, h.su11]; exact (sumKind hv (k3' := c' 3) e3 k7).symm
  case su12 => rw [t12, h.su12]; exact (sumKind hv (k3' := c' 3) e3 k7).symm
  case su13 => rw [A _ (by unfold iNet; omega) (by omega) (by omega) (by omega) (by omega) (by omega), e18]; exact h.su13
  case su14 => rw [t14, s0, h.su14]
  case su15 => rw [A _ (by unfold iNet; omega) (by omega) (by omega) (by omega) (by omega) (by omega), e20]; exact h.su15
  case su16 => rw [A _ (by unfold iNet; omega) (by omega) (by omega) (by omega) (by omega) (by omega), e21]; exact h.su16
theorem RNet.send1 {c c' : Sg} {a a' : Nat → Int32} {N C Q j p : Nat} {lk y : Int32} (h : RNet c a N C Q) (hj : j < C) (hp1 : j * 9 ≤ p) (hp2 : p < j * 9 + 9) (hc : ∀ i, 2 ≤ i → i ≤ 21 → i ≠ 18 → i ≠ 20 → c' i = c i) (e18 : c' 18 = up1 (c 18) p (c 18 p + y)) (s0 : c' 20 1 = c 20 1 + lk) (s1 : c' 20 0 = c 20 0) (b3 : a' (416 + p) = a (416 + p) + y) (t13 : a' 20 = a 20 + y) (t15 : a' 22 = a 22 + lk) (ha : ∀ j, iNet j → j ≠ 416 + p → j ≠ 20 → j ≠ 22 → a' j = a j) : RNet c' a' N C Q := by
  have hC := h.hC
  have e2 := hc 2 (by decide) (by decide) (by decide) (by decide)
  have e3 := hc 3 (by decide) (by decide) (by decide) (by decide)
  have e4 := hc 4 (by decide) (by decide) (by decide) (by decide)
  have e5 := hc 5 (by decide) (by decide) (by decide) (by decide)
  have e7 := hc 7 (by decide) (by decide) (by decide) (by decide)
  have e8 := hc 8 (by decide) (by decide) (by decide) (by decide)
  have e9 := hc 9 (by decide) (by decide) (by decide) (by decide)
  have e10 := hc 10 (by decide) (by decide) (by decide) (by decide)
  have e11 := hc 11 (by decide) (by decide) (by decide) (by decide)
  have e12 := hc 12 (by decide) (by decide) (by decide) (by decide)
  have e13 := hc 13 (by decide) (by decide) (by decide) (by decide)
  have e14 := hc 14 (by decide) (by decide) (by decide) (by decide)
  have e15 := hc 15 (by decide) (by decide) (by decide) (by decide)
  have e17 := hc 17 (by decide) (by decide) (by decide) (by decide)
  have e19 := hc 19 (by decide) (by decide) (by decide) (by decide)
  have e21 := hc 21 (by decide) (by decide) (by decide) (by decide)
  have A := ha
  apply RNet.mk
  case hN => exact h.hN
  case hC => exact h.hC
  case hQ => exact h.hQ
  case cN => rw [e2]; exact h.cN
  case aN => rw [A _ (by unfold iNet; omega) (by omega) (by omega) (by omega)]; exact h.aN
  case cC => rw [e2]; exact h.cC
  case aC => rw [A _ (by unfold iNet; omega) (by omega) (by omega) (by omega)]; exact h.aC
  case cQ => rw [e2]; exact h.cQ
  case aQ => rw [A _ (by unfold iNet; omega) (by omega) (by omega) (by omega)]; exact h.aQ
  case kind => intro n hn; rw [A _ (by unfold iNet; omega) (by omega) (by omega) (by omega), e3]; exact h.kind n hn
  case size => intro n hn; rw [A _ (by unfold iNet; omega) (by omega) (by omega) (by omega), e4]; exact h.size n hn
  case gate => intro n hn; rw [A _ (by unfold iNet; omega) (by omega) (by omega) (by omega), e5]; exact h.gate n hn
  case kep0 => intro n hn; rw [A _ (by unfold iNet; omega) (by omega) (by omega) (by omega), e7]; exact h.kep0 n hn
  case kep1 => intro n hn; rw [A _ (by unfold iNet; omega) (by omega) (by omega) (by omega), e8]; exact h.kep1 n hn
  case frm => intro n hn; rw [A _ (by unfold iNet; omega) (by omega) (by omega) (by omega), e9]; exact h.frm n hn
  case to => intro n hn; rw [A _ (by unfold iNet; omega) (by omega) (by omega) (by omega), e10]; exact h.to n hn
  case low => intro n hn; rw [A _ (by unfold iNet; omega) (by omega) (by omega) (by omega), e11]; exact h.low n hn
  case hig => intro n hn; rw [A _ (by unfold iNet; omega) (by omega) (by omega) (by omega), e12]; exact h.hig n hn
  case trv => intro n hn; rw [A _ (by unfold iNet; omega) (by omega) (by omega) (by omega), e13]; exact h.trv n hn
  case brd => intro n hn; rw [A _ (by unfold iNet; omega) (by omega) (by omega) (by omega), e14]; exact h.brd n hn
  case brk => intro n hn; rw [A _ (by unfold iNet; omega) (by omega) (by omega) (by omega), e15]; exact h.brk n hn
  case way0 => intro n hn; rw [A _ (by unfold iNet; omega) (by omega) (by omega) (by omega), e17]; exact h.way0 n hn
  case way1 => 
    intro i hi
    rw [e18]
    by_cases e : i = p
    · subst e; rw [up1_eq, b3, h.way1 i hi]
    · rw [up1_ne e, A _ (by unfold iNet; omega) (by omega) (by omega) (by omega)]; exact h.way1 i hi
  case gateV => rw [e5, e9]; exact h.gateV
  case ends => rw [e9, e10]; exact h.ends
  case lowV => rw [e11]; exact h.lowV
  case higV => rw [e12]; exact h.higV
  case trvV => rw [e13]; exact h.trvV
  case brdV => rw [e14]; exact h.brdV
  case brkV => rw [e15]; exact h.brkV
  case kindV => rw [e3]; exact h.kindV
  case kepZ => rw [e7, e8]; exact h.kepZ
  case brkZ => rw [e15]; exact h.brkZ
  case wayZ => 
    intro i h1 h2
    rw [e18, up1_ne (by omega), e17]
    exact h.wayZ i h1 h2
  case su00 => rw [A _ (by unfold iNet; omega) (by omega) (by omega) (by omega), e3, e7]; exact h.su00
  case su01 => rw [A _ (by unfold iNet; omega) (by omega) (by omega) (by omega), e3, e7]; exact h.su01
  case su02 => rw [A _ (by unfold iNet; omega) (by omega) (by omega) (by omega), e3, e7]; exact h.su02
  case su03 => rw [A _ (by unfold iNet; omega) (by omega) (by omega) (by omega), e17]; exact h.su03
  case su04 => rw [A _ (by unfold iNet; omega) (by omega) (by omega) (by omega), e19]; exact h.su04
  case su05 => rw [A _ (by unfold iNet; omega) (by omega) (by omega) (by omega), s1]; exact h.su05
  case su06 => rw [A _ (by unfold iNet; omega) (by omega) (by omega) (by omega), e21]; exact h.su06
  case su10 => rw [A _ (by unfold iNet; omega) (by omega) (by omega) (by omega), e3, e8]; exact h.su10
  case su11 => rw [A _ (by unfold iNet; omega) (by omega) (by omega) (by omega), e3, e8]; exact h.su11
  case su12 => rw [A _ (by unfold iNet; omega) (by omega) (by omega) (by omega), e3, e8]; exact h.su12
  case su13 => rw [t13, e18, h.su13, sumTo_u (by omega), i_asc]
  case su14 => rw [A _ (by unfold iNet; omega) (by omega) (by omega) (by omega), e19]; exact h.su14
  case su15 => rw [t15, s0, h.su15]
  case su16 => rw [A _ (by unfold iNet; omega) (by omega) (by omega) (by omega), e21]; exact h.su16
theorem RNet.lost1 {c c' : Sg} {a a' : Nat → Int32} {N C Q : Nat} {x : Int32} (h : RNet c a N C Q) (hc : ∀ i, 2 ≤ i → i ≤ 21 → i ≠ 21 → c' i = c i) (s0 : c' 21 1 = c 21 1 + x) (s1 : c' 21 0 = c 21 0) (t16 : a' 23 = a 23 + x) (ha : ∀ j, iNet j → j ≠ 23 → a' j = a j) : RNet c' a' N C Q := by
  have e2 := hc 2 (by decide) (by decide) (by decide)
  have e3 := hc 3 (by decide) (by decide) (by decide)
  have e4 := hc 4 (by decide) (by decide) (by decide)
  have e5 := hc 5 (by decide) (by decide) (by decide)
  have e7 := hc 7 (by decide) (by decide) (by decide)
  have e8 := hc 8 (by decide) (by decide) (by decide)
  have e9 := hc 9 (by decide) (by decide) (by decide)
  have e10 := hc 10 (by decide) (by decide) (by decide)
  have e11 := hc 11 (by decide) (by decide) (by decide)
  have e12 := hc 12 (by decide) (by decide) (by decide)
  have e13 := hc 13 (by decide) (by decide) (by decide)
  have e14 := hc 14 (by decide) (by decide) (by decide)
  have e15 := hc 15 (by decide) (by decide) (by decide)
  have e17 := hc 17 (by decide) (by decide) (by decide)
  have e18 := hc 18 (by decide) (by decide) (by decide)
  have e19 := hc 19 (by decide) (by decide) (by decide)
  have e20 := hc 20 (by decide) (by decide) (by decide)
  have A := ha
  apply RNet.mk
  case hN => exact h.hN
  case hC => exact h.hC
  case hQ => exact h.hQ
  case cN => rw [e2]; exact h.cN
  case aN => rw [A _ (by unfold iNet; omega) (by omega)]; exact h.aN
  case cC => rw [e2]; exact h.cC
  case aC => rw [A _ (by unfold iNet; omega) (by omega)]; exact h.aC
  case cQ => rw [e2]; exact h.cQ
  case aQ => rw [A _ (by unfold iNet; omega) (by omega)]; exact h.aQ
  case kind => intro n hn; rw [A _ (by unfold iNet; omega) (by omega), e3]; exact h.kind n hn
  case size => intro n hn; rw [A _ (by unfold iNet; omega) (by omega), e4]; exact h.size n hn
  case gate => intro n hn; rw [A _ (by unfold iNet; omega) (by omega), e5]; exact h.gate n hn
  case kep0 => intro n hn; rw [A _ (by unfold iNet; omega) (by omega), e7]; exact h.kep0 n hn
  case kep1 => intro n hn; rw [A _ (by unfold iNet; omega) (by omega), e8]; exact h.kep1 n hn
  case frm => intro n hn; rw [A _ (by unfold iNet; omega) (by omega), e9]; exact h.frm n hn
  case to => intro n hn; rw [A _ (by unfold iNet; omega) (by omega), e10]; exact h.to n hn
  case low => intro n hn; rw [A _ (by unfold iNet; omega) (by omega), e11]; exact h.low n hn
  case hig => intro n hn; rw [A _ (by unfold iNet; omega) (by omega), e12]; exact h.hig n hn
  case trv => intro n hn; rw [A _ (by unfold iNet; omega) (by omega), e13]; exact h.trv n hn
  case brd => intro n hn; rw [A _ (by unfold iNet; omega) (by omega), e14]; exact h.brd n hn
  case brk => intro n hn; rw [A _ (by unfold iNet; omega) (by omega), e15]; exact h.brk n hn
  case way0 => intro n hn; rw [A _ (by unfold iNet; omega) (by omega), e17]; exact h.way0 n hn
  case way1 => intro n hn; rw [A _ (by unfold iNet; omega) (by omega), e18]; exact h.way1 n hn
  case gateV => rw [e5, e9]; exact h.gateV
  case ends => rw [e9, e10]; exact h.ends
  case lowV => rw [e11]; exact h.lowV
  case higV => rw [e12]; exact h.higV
  case trvV => rw [e13]; exact h.trvV
  case brdV => rw [e14]; exact h.brdV
  case brkV => rw [e15]; exact h.brkV
  case kindV => rw [e3]; exact h.kindV
  case kepZ => rw [e7, e8]; exact h.kepZ
  case brkZ => rw [e15]; exact h.brkZ
  case wayZ => rw [e17, e18]; exact h.wayZ
  case su00 => rw [A _ (by unfold iNet; omega) (by omega), e3, e7]; exact h.su00
  case su01 => rw [A _ (by unfold iNet; omega) (by omega), e3, e7]; exact h.su01
  case su02 => rw [A _ (by unfold iNet; omega) (by omega), e3, e7]; exact h.su02
  case su03 => rw [A _ (by unfold iNet; omega) (by omega), e17]; exact h.su03
  case su04 => rw [A _ (by unfold iNet; omega) (by omega), e19]; exact h.su04
  case su05 => rw [A _ (by unfold iNet; omega) (by omega), e20]; exact h.su05
  case su06 => rw [A _ (by unfold iNet; omega) (by omega), s1]; exact h.su06
  case su10 => rw [A _ (by unfold iNet; omega) (by omega), e3, e8]; exact h.su10
  case su11 => rw [A _ (by unfold iNet; omega) (by omega), e3, e8]; exact h.su11
  case su12 => rw [A _ (by unfold iNet; omega) (by omega), e3, e8]; exact h.su12
  case su13 => rw [A _ (by unfold iNet; omega) (by omega), e18]; exact h.su13
  case su14 => rw [A _ (by unfold iNet; omega) (by omega), e19]; exact h.su14
  case su15 => rw [A _ (by unfold iNet; omega) (by omega), e20]; exact h.su15
  case su16 => rw [t16, s0, h.su16]
theorem RNet.arr1 {c c' : Sg} {a a' : Nat → Int32} {N C Q : Nat} {x : Int32} (h : RNet c a N C Q) (hc : ∀ i, 2 ≤ i → i ≤ 21 → i ≠ 18 → c' i = c i) (b3 : ∀ i, i < 126 → a' (416 + i) = c' 18 i) (hz : ∀ i, c 18 i = 0 → c' 18 i = 0) (hs : sumTo (c' 18) 126 + x = sumTo (c 18) 126) (t13 : a' 20 = a 20 + -x) (ha : ∀ j, iNet j → (j < 416 ∨ 416 + 126 ≤ j) → j ≠ 20 → a' j = a j) : RNet c' a' N C Q := by
  have hC := h.hC
  have e2 := hc 2 (by decide) (by decide) (by decide)
  have e3 := hc 3 (by decide) (by decide) (by decide)
  have e4 := hc 4 (by decide) (by decide) (by decide)
  have e5 := hc 5 (by decide) (by decide) (by decide)
  have e7 := hc 7 (by decide) (by decide) (by decide)
  have e8 := hc 8 (by decide) (by decide) (by decide)
  have e9 := hc 9 (by decide) (by decide) (by decide)
  have e10 := hc 10 (by decide) (by decide) (by decide)
  have e11 := hc 11 (by decide) (by decide) (by decide)
  have e12 := hc 12 (by decide) (by decide) (by decide)
  have e13 := hc 13 (by decide) (by decide) (by decide)
  have e14 := hc 14 (by decide) (by decide) (by decide)
  have e15 := hc 15 (by decide) (by decide) (by decide)
  have e17 := hc 17 (by decide) (by decide) (by decide)
  have e19 := hc 19 (by decide) (by decide) (by decide)
  have e20 := hc 20 (by decide) (by decide) (by decide)
  have e21 := hc 21 (by decide) (by decide) (by decide)
  have A := ha
  apply RNet.mk
  case hN => exact h.hN
  case hC => exact h.hC
  case hQ => exact h.hQ
  case cN => rw [e2]; exact h.cN
  case aN => rw [A _ (by unfold iNet; omega) (by omega) (by omega)]; exact h.aN
  case cC => rw [e2]; exact h.cC
  case aC => rw [A _ (by unfold iNet; omega) (by omega) (by omega)]; exact h.aC
  case cQ => rw [e2]; exact h.cQ
  case aQ => rw [A _ (by unfold iNet; omega) (by omega) (by omega)]; exact h.aQ
  case kind => intro n hn; rw [A _ (by unfold iNet; omega) (by omega) (by omega), e3]; exact h.kind n hn
  case size => intro n hn; rw [A _ (by unfold iNet; omega) (by omega) (by omega), e4]; exact h.size n hn
  case gate => intro n hn; rw [A _ (by unfold iNet; omega) (by omega) (by omega), e5]; exact h.gate n hn
  case kep0 => intro n hn; rw [A _ (by unfold iNet; omega) (by omega) (by omega), e7]; exact h.kep0 n hn
  case kep1 => intro n hn; rw [A _ (by unfold iNet; omega) (by omega) (by omega), e8]; exact h.kep1 n hn
  case frm => intro n hn; rw [A _ (by unfold iNet; omega) (by omega) (by omega), e9]; exact h.frm n hn
  case to => intro n hn; rw [A _ (by unfold iNet; omega) (by omega) (by omega), e10]; exact h.to n hn
  case low => intro n hn; rw [A _ (by unfold iNet; omega) (by omega) (by omega), e11]; exact h.low n hn
  case hig => intro n hn; rw [A _ (by unfold iNet; omega) (by omega) (by omega), e12]; exact h.hig n hn
  case trv => intro n hn; rw [A _ (by unfold iNet; omega) (by omega) (by omega), e13]; exact h.trv n hn
  case brd => intro n hn; rw [A _ (by unfold iNet; omega) (by omega) (by omega), e14]; exact h.brd n hn
  case brk => intro n hn; rw [A _ (by unfold iNet; omega) (by omega) (by omega), e15]; exact h.brk n hn
  case way0 => intro n hn; rw [A _ (by unfold iNet; omega) (by omega) (by omega), e17]; exact h.way0 n hn
  case way1 => exact b3
  case gateV => rw [e5, e9]; exact h.gateV
  case ends => rw [e9, e10]; exact h.ends
  case lowV => rw [e11]; exact h.lowV
  case higV => rw [e12]; exact h.higV
  case trvV => rw [e13]; exact h.trvV
  case brdV => rw [e14]; exact h.brdV
  case brkV => rw [e15]; exact h.brkV
  case kindV => rw [e3]; exact h.kindV
  case kepZ => rw [e7, e8]; exact h.kepZ
  case brkZ => rw [e15]; exact h.brkZ
  case wayZ => 
    intro i h1 h2
    rw [e17]
    exact ⟨(h.wayZ i h1 h2).1, hz i (h.wayZ i h1 h2).2⟩
  case su00 => rw [A _ (by unfold iNet; omega) (by omega) (by omega), e3, e7]; exact h.su00
  case su01 => rw [A _ (by unfold iNet; omega) (by omega) (by omega), e3, e7]; exact h.su01
  case su02 => rw [A _ (by unfold iNet; omega) (by omega) (by omega), e3, e7]; exact h.su02
  case su03 => rw [A _ (by unfold iNet; omega) (by omega) (by omega), e17]; exact h.su03
  case su04 => rw [A _ (by unfold iNet; omega) (by omega) (by omega), e19]; exact h.su04
  case su05 => rw [A _ (by unfold iNet; omega) (by omega) (by omega), e20]; exact h.su05
  case su06 => rw [A _ (by unfold iNet; omega) (by omega) (by omega), e21]; exact h.su06
  case su10 => rw [A _ (by unfold iNet; omega) (by omega) (by omega), e3, e8]; exact h.su10
  case su11 => rw [A _ (by unfold iNet; omega) (by omega) (by omega), e3, e8]; exact h.su11
  case su12 => rw [A _ (by unfold iNet; omega) (by omega) (by omega), e3, e8]; exact h.su12
  case su13 => rw [t13, h.su13, ← hs, ← Int32.sub_eq_add_neg, Int32.add_sub_cancel]
  case su14 => rw [A _ (by unfold iNet; omega) (by omega) (by omega), e19]; exact h.su14
  case su15 => rw [A _ (by unfold iNet; omega) (by omega) (by omega), e20]; exact h.su15
  case su16 => rw [A _ (by unfold iNet; omega) (by omega) (by omega), e21]; exact h.su16
theorem arr_y0 {g M : Sg} {N C Q v : Nat} (h : RNet g (M 216) N C Q) : ∀ m j F G came f a, j + m = C → m < F → m < G → (∀ i, (i < 290 ∨ 290 + 126 ≤ i) → i ≠ 13 → a i = M 216 i) → a 13 = M 216 13 → (∀ i, i < 126 → a (290 + i) = f i) → ∃ came2 f2 a2, net_takeArrivals_k0_5 F (nn v) came (nn j) (sc g 17 f) = some (came2, sc g 17 f2) ∧ m_comes_k0_5 G (nn v) came (nn j) (sc M 216 a) = some (came2, sc M 216 a2) ∧ (∀ i, (i < 290 ∨ 290 + 126 ≤ i) → i ≠ 13 → a2 i = M 216 i) ∧ a2 13 = M 216 13 + -came2 ∧ (∀ i, i < 126 → a2 (290 + i) = f2 i) ∧ (∀ i, f i = 0 → f2 i = 0) ∧ sumTo f2 126 + came2 = sumTo f 126 + came := by
  have hC := h.hC
  have hN := h.hN
  have hQ := h.hQ
  intro m
  induction m with
  | zero =>
    intro j F G came f a hj hF hG ha h13 hf
    obtain ⟨F, rfl⟩ : ∃ F2, F = F2 + 1 := ⟨F - 1, by omega⟩
    obtain ⟨G, rfl⟩ : ∃ F2, G = F2 + 1 := ⟨G - 1, by omega⟩
    have : j = C := by omega
    subst this
    refine ⟨came, f, up1 a 13 (a 13 + -came), ?_, ?_, ?_, ?_, ?_, fun _ e => e, rfl⟩
    · unfold net_takeArrivals_k0_5
      rw [sc_n (by decide), h.cC]
      exact if_pos (Int32.le_refl _)
    · unfold m_comes_k0_5 m_adds_k0_3
      rw [sc_e, ha 1 (by omega) (by omega), h.aC]
      refine st_t (Int32.le_refl _) (st_b (st_l rfl) ?_)
      rw [sc_u]
    · intro i h1 h2
      rw [up1_ne h2]; exact ha i h1 h2
    · rw [up1_eq, h13]
    · intro i hi
      rw [up1_ne (by omega)]; exact hf i hi
  | succ m ih =>
    intro j F G came f a hj hF hG ha h13 hf
    obtain ⟨F, rfl⟩ : ∃ F2, F = F2 + 1 := ⟨F - 1, by omega⟩
    obtain ⟨G, rfl⟩ : ∃ F2, G = F2 + 1 := ⟨G - 1, by omega⟩
    have hj14 : j < 14 := by omega
    have h2 : ¬ C ≤ j := by omega
    have e1 : nn j + 1 = nn (j + 1) := nnA j 1
    have hch : m_channelOf_k1 (nn j) (sc M 216 a) = some (g 10 j) := by
      rw [← h.to j hj14, ← ha (190 + 7 * j + 1) (by omega) (by omega)]
      exact (chanOf_y (g := sc M 216 a) hj14 (k := 1) (by decide)).trans (by rw [sc_e])
    by_cases q : g 10 j = nn v
    · have hp : j * 9 + Q % 9 < 126 := by omega
      have hp2 : 290 + (j * 9 + Q % 9) < 20360 := by omega
      obtain ⟨came2, f2, a2, r1, r2, r3, r4, r5, r6, r7⟩ := ih (j + 1) F G (came + f (j * 9 + Q % 9)) (up1 f (j * 9 + Q % 9) 0) (up1 a (290 + (j * 9 + Q % 9)) 0) (by omega) (by omega) (by omega) (fun i p1 p2 => by rw [up1_ne (by omega)]; exact ha i p1 p2) (by rw [up1_ne (by omega)]; exact h13) (fun i hi => by
        by_cases e : i = j * 9 + Q % 9
        · rw [e, up1_eq, up1_eq]
        · rw [up1_ne e, up1_ne (by omega)]; exact hf i hi)
      refine ⟨came2, f2, a2, ?_, ?_, r3, r4, r5, fun i e => r6 i ?_, ?_⟩
      · unfold net_takeArrivals_k0_5 net_placeAt
        rw [sc_n (by decide), h.cC, sc_n (by decide), nnT (by omega), h.cQ, e1]
        have ep : nn j * 9 + (nn Q - nn Q / 9 * 9) = nn (j * 9 + Q % 9) := by
          have e : nn Q / 9 * 9 = nn (Q / 9 * 9) := by simp (disch := first | omega | decide) only [lt1, nnMl, nnMr, nnAl, nnAr, nnA, nnM, nnB, nnT, nnP, nnE, nnEl, nnEr, nnL, nnLl, nnLr, nnQ, nnQr, nnN, Nat.add_zero, if_false, if_true, Option.bind_some, not_true, not_false_iff, not_true_eq_false, not_false_eq_true, eq_self, Nat.not_lt_zero, z10, z01, or_true, true_or, or_false, false_or, true_and, false_and, nnDr]
          rw [e, nnS (a := Q) (b := Q / 9 * 9) (by omega), show Q - Q / 9 * 9 = Q % 9 by omega]
          simp (disch := first | omega | decide) only [lt1, nnMl, nnMr, nnAl, nnAr, nnA, nnM, nnB, nnT, nnP, nnE, nnEl, nnEr, nnL, nnLl, nnLr, nnQ, nnQr, nnN, Nat.add_zero, if_false, if_true, Option.bind_some, not_true, not_false_iff, not_true_eq_false, not_false_eq_true, eq_self, Nat.not_lt_zero, z10, z01, or_true, true_or, or_false, false_or, true_and, false_and]
        refine st_f (by simp (disch := first | omega | decide) only [lt1, nnMl, nnMr, nnAl, nnAr, nnA, nnM, nnB, nnT, nnP, nnE, nnEl, nnEr, nnL, nnLl, nnLr, nnQ, nnQr, nnN, Nat.add_zero, if_false, if_true, Option.bind_some, not_true, not_false_iff, not_true_eq_false, not_false_eq_true, eq_self, Nat.not_lt_zero, z10, z01, or_true, true_or, or_false, false_or, true_and, false_and, h2]) (st_t (by simp (disch := first | omega | decide) only [lt1, nnMl, nnMr, nnAl, nnAr, nnA, nnM, nnB, nnT, nnP, nnE, nnEl, nnEr, nnL, nnLl, nnLr, nnQ, nnQr, nnN, Nat.add_zero, if_false, if_true, Option.bind_some, not_true, not_false_iff, not_true_eq_false, not_false_eq_true, eq_self, Nat.not_lt_zero, z10, z01, or_true, true_or, or_false, false_or, true_and, false_and, hj14]) (st_f (fun e => e q) (st_b rfl ?_)))
        rw [ep]
        refine st_w (by simp (disch := first | omega | decide) only [lt1, nnMl, nnMr, nnAl, nnAr, nnA, nnM, nnB, nnT, nnP, nnE, nnEl, nnEr, nnL, nnLl, nnLr, nnQ, nnQr, nnN, Nat.add_zero, if_false, if_true, Option.bind_some, not_true, not_false_iff, not_true_eq_false, not_false_eq_true, eq_self, Nat.not_lt_zero, z10, z01, or_true, true_or, or_false, false_or, true_and, false_and, hp]) (st_w (by simp (disch := first | omega | decide) only [lt1, nnMl, nnMr, nnAl, nnAr, nnA, nnM, nnB, nnT, nnP, nnE, nnEl, nnEr, nnL, nnLl, nnLr, nnQ, nnQr, nnN, Nat.add_zero, if_false, if_true, Option.bind_some, not_true, not_false_iff, not_true_eq_false, not_false_eq_true, eq_self, Nat.not_lt_zero, z10, z01, or_true, true_or, or_false, false_or, true_and, false_and, hp]) ?_)
        rw [sc_e, nnT (by omega), sc_u]
        exact r1
      · unfold m_comes_k0_5 m_wayAt_k0
        rw [sc_e, ha 1 (by omega) (by omega), h.aC, ha 3 (by omega) (by omega), h.aQ, e1]
        have ep : 290 + 9 * (0 + nn j) + (nn Q - nn Q / 9 * 9) = nn (290 + (j * 9 + Q % 9)) := by
          have e : nn Q / 9 * 9 = nn (Q / 9 * 9) := by simp (disch := first | omega | decide) only [lt1, nnMl, nnMr, nnAl, nnAr, nnA, nnM, nnB, nnT, nnP, nnE, nnEl, nnEr, nnL, nnLl, nnLr, nnQ, nnQr, nnN, Nat.add_zero, if_false, if_true, Option.bind_some, not_true, not_false_iff, not_true_eq_false, not_false_eq_true, eq_self, Nat.not_lt_zero, z10, z01, or_true, true_or, or_false, false_or, true_and, false_and, nnDr]
          rw [e, nnS (a := Q) (b := Q / 9 * 9) (by omega), show Q - Q / 9 * 9 = Q % 9 by omega, show 290 + (j * 9 + Q % 9) = 290 + 9 * (0 + j) + Q % 9 by omega]
          simp (disch := first | omega | decide) only [lt1, nnMl, nnMr, nnAl, nnAr, nnA, nnM, nnB, nnT, nnP, nnE, nnEl, nnEr, nnL, nnLl, nnLr, nnQ, nnQr, nnN, Nat.add_zero, if_false, if_true, Option.bind_some, not_true, not_false_iff, not_true_eq_false, not_false_eq_true, eq_self, Nat.not_lt_zero, z10, z01, or_true, true_or, or_false, false_or, true_and, false_and]
        refine st_f (by simp (disch := first | omega | decide) only [lt1, nnMl, nnMr, nnAl, nnAr, nnA, nnM, nnB, nnT, nnP, nnE, nnEl, nnEr, nnL, nnLl, nnLr, nnQ, nnQr, nnN, Nat.add_zero, if_false, if_true, Option.bind_some, not_true, not_false_iff, not_true_eq_false, not_false_eq_true, eq_self, Nat.not_lt_zero, z10, z01, or_true, true_or, or_false, false_or, true_and, false_and, h2]) (st_b hch (st_t q (st_b rfl ?_)))
        rw [ep]
        refine st_w (by simp (disch := first | omega | decide) only [lt1, nnMl, nnMr, nnAl, nnAr, nnA, nnM, nnB, nnT, nnP, nnE, nnEl, nnEr, nnL, nnLl, nnLr, nnQ, nnQr, nnN, Nat.add_zero, if_false, if_true, Option.bind_some, not_true, not_false_iff, not_true_eq_false, not_false_eq_true, eq_self, Nat.not_lt_zero, z10, z01, or_true, true_or, or_false, false_or, true_and, false_and, hp2]) (st_w (by simp (disch := first | omega | decide) only [lt1, nnMl, nnMr, nnAl, nnAr, nnA, nnM, nnB, nnT, nnP, nnE, nnEl, nnEr, nnL, nnLl, nnLr, nnQ, nnQr, nnN, Nat.add_zero, if_false, if_true, Option.bind_some, not_true, not_false_iff, not_true_eq_false, not_false_eq_true, eq_self, Nat.not_lt_zero, z10, z01, or_true, true_or, or_false, false_or, true_and, false_and, hp2]) ?_)
        rw [nnT (by omega), sc_u, hf _ hp]
        exact r2
      · by_cases e2 : i = j * 9 + Q % 9
        · rw [e2, up1_eq]
        · rw [up1_ne e2]; exact e
      · rw [r7, sumTo_u hp, Int32.add_assoc, show (0 : Int32) - f (j * 9 + Q % 9) + (came + f (j * 9 + Q % 9)) = came by rw [Int32.add_comm came, ← Int32.add_assoc, Int32.sub_add_cancel, Int32.zero_add]]
    · obtain ⟨came2, f2, a2, r1, r2, r3⟩ := ih (j + 1) F G came f a (by omega) (by omega) (by omega) ha h13 hf
      refine ⟨came2, f2, a2, ?_, ?_, r3⟩
      · unfold net_takeArrivals_k0_5
        rw [sc_n (by decide), h.cC, sc_n (by decide), nnT (by omega), e1]
        exact st_f (by simp (disch := first | omega | decide) only [lt1, nnMl, nnMr, nnAl, nnAr, nnA, nnM, nnB, nnT, nnP, nnE, nnEl, nnEr, nnL, nnLl, nnLr, nnQ, nnQr, nnN, Nat.add_zero, if_false, if_true, Option.bind_some, not_true, not_false_iff, not_true_eq_false, not_false_eq_true, eq_self, Nat.not_lt_zero, z10, z01, or_true, true_or, or_false, false_or, true_and, false_and, h2]) (st_t (by simp (disch := first | omega | decide) only [lt1, nnMl, nnMr, nnAl, nnAr, nnA, nnM, nnB, nnT, nnP, nnE, nnEl, nnEr, nnL, nnLl, nnLr, nnQ, nnQr, nnN, Nat.add_zero, if_false, if_true, Option.bind_some, not_true, not_false_iff, not_true_eq_false, not_false_eq_true, eq_self, Nat.not_lt_zero, z10, z01, or_true, true_or, or_false, false_or, true_and, false_and, hj14]) (st_t q r1))
      · unfold m_comes_k0_5
        rw [sc_e, ha 1 (by omega) (by omega), h.aC, e1]
        exact st_f (by simp (disch := first | omega | decide) only [lt1, nnMl, nnMr, nnAl, nnAr, nnA, nnM, nnB, nnT, nnP, nnE, nnEl, nnEr, nnL, nnLl, nnLr, nnQ, nnQr, nnN, Nat.add_zero, if_false, if_true, Option.bind_some, not_true, not_false_iff, not_true_eq_false, not_false_eq_true, eq_self, Nat.not_lt_zero, z10, z01, or_true, true_or, or_false, false_or, true_and, false_and, h2]) (st_b hch (st_f q r2))
theorem arr_y1 {g M : Sg} {N C Q v : Nat} (h : RNet g (M 216) N C Q) : ∀ m j F G came f a, j + m = C → m < F → m < G → (∀ i, (i < 416 ∨ 416 + 126 ≤ i) → i ≠ 20 → a i = M 216 i) → a 20 = M 216 20 → (∀ i, i < 126 → a (416 + i) = f i) → ∃ came2 f2 a2, net_takeArrivals_k1_5 F (nn v) came (nn j) (sc g 18 f) = some (came2, sc g 18 f2) ∧ m_comes_k1_5 G (nn v) came (nn j) (sc M 216 a) = some (came2, sc M 216 a2) ∧ (∀ i, (i < 416 ∨ 416 + 126 ≤ i) → i ≠ 20 → a2 i = M 216 i) ∧ a2 20 = M 216 20 + -came2 ∧ (∀ i, i < 126 → a2 (416 + i) = f2 i) ∧ (∀ i, f i = 0 → f2 i = 0) ∧ sumTo f2 126 + came2 = sumTo f 126 + came := by
  have hC := h.hC
  have hN := h.hN
  have hQ := h.hQ
  intro m
  induction m with
  | zero =>
    intro j F G came f a hj hF hG ha h13 hf
    obtain ⟨F, rfl⟩ : ∃ F2, F = F2 + 1 := ⟨F - 1, by omega⟩
    obtain ⟨G, rfl⟩ : ∃ F2, G = F2 + 1 := ⟨G - 1, by omega⟩
    have : j = C := by omega
    subst this
    refine ⟨came, f, up1 a 20 (a 20 + -came), ?_, ?_, ?_, ?_, ?_, fun _ e => e, rfl⟩
    · unfold net_takeArrivals_k1_5
      rw [sc_n (by decide), h.cC]
      exact if_pos (Int32.le_refl _)
    · unfold m_comes_k1_5 m_adds_k1_3
      rw [sc_e, ha 1 (by omega) (by omega), h.aC]
      refine st_t (Int32.le_refl _) (st_b (st_l rfl) ?_)
      rw [sc_u]
    · intro i h1 h2
      rw [up1_ne h2]; exact ha i h1 h2
    · rw [up1_eq, h13]
    · intro i hi
      rw [up1_ne (by omega)]; exact hf i hi
  | succ m ih =>
    intro j F G came f a hj hF hG ha h13 hf
    obtain ⟨F, rfl⟩ : ∃ F2, F = F2 + 1 := ⟨F - 1, by omega⟩
    obtain ⟨G, rfl⟩ : ∃ F2, G = F2 + 1 := ⟨G - 1, by omega⟩
    have hj14 : j < 14 := by omega
    have h2 : ¬ C ≤ j := by omega
    have e1 : nn j + 1 = nn (j + 1) := nnA j 1
    have hch : m_channelOf_k1 (nn j) (sc M 216 a) = some (g 10 j) := by
      rw [← h.to j hj14, ← ha (190 + 7 * j + 1) (by omega) (by omega)]
      exact (chanOf_y (g := sc M 216 a) hj14 (k := 1) (by decide)).trans (by rw [sc_e])
    by_cases q : g 10 j = nn v
    · have hp : j * 9 + Q % 9 < 126 := by omega
      have hp2 : 416 + (j * 9 + Q % 9) < 20360 := by omega
      obtain ⟨came2, f2, a2, r1, r2, r3, r4, r5, r6, r7⟩ := ih (j + 1) F G (came + f (j * 9 + Q % 9)) (up1 f (j * 9 + Q % 9) 0) (up1 a (416 + (j * 9 + Q % 9)) 0) (by omega) (by omega) (by omega) (fun i p1 p2 => by rw [up1_ne (by omega)]; exact ha i p1 p2) (by rw [up1_ne (by omega)]; exact h13) (fun i hi => by
        by_cases e : i = j * 9 + Q % 9
        · rw [e, up1_eq, up1_eq]
        · rw [up1_ne e, up1_ne (by omega)]; exact hf i hi)
      refine ⟨came2, f2, a2, ?_, ?_, r3, r4, r5, fun i e => r6 i ?_, ?_⟩
      · unfold net_takeArrivals_k1_5 net_placeAt
        rw [sc_n (by decide), h.cC, sc_n (by decide), nnT (by omega), h.cQ, e1]
        have ep : nn j * 9 + (nn Q - nn Q / 9 * 9) = nn (j * 9 + Q % 9) := by
          have e : nn Q / 9 * 9 = nn (Q / 9 * 9) := by simp (disch := first | omega | decide) only [lt1, nnMl, nnMr, nnAl, nnAr, nnA, nnM, nnB, nnT, nnP, nnE, nnEl, nnEr, nnL, nnLl, nnLr, nnQ, nnQr, nnN, Nat.add_zero, if_false, if_true, Option.bind_some, not_true, not_false_iff, not_true_eq_false, not_false_eq_true, eq_self, Nat.not_lt_zero, z10, z01, or_true, true_or, or_false, false_or, true_and, false_and, nnDr]
          rw [e, nnS (a := Q) (b := Q / 9 * 9) (by omega), show Q - Q / 9 * 9 = Q % 9 by omega]
          simp (disch := first | omega | decide) only [lt1, nnMl, nnMr, nnAl, nnAr, nnA, nnM, nnB, nnT, nnP, nnE, nnEl, nnEr, nnL, nnLl, nnLr, nnQ, nnQr, nnN, Nat.add_zero, if_false, if_true, Option.bind_some, not_true, not_false_iff, not_true_eq_false, not_false_eq_true, eq_self, Nat.not_lt_zero, z10, z01, or_true, true_or, or_false, false_or, true_and, false_and]
        refine st_f (by simp (disch := first | omega | decide) only [lt1, nnMl, nnMr, nnAl, nnAr, nnA, nnM, nnB, nnT, nnP, nnE, nnEl, nnEr, nnL, nnLl, nnLr, nnQ, nnQr, nnN, Nat.add_zero, if_false, if_true, Option.bind_some, not_true, not_false_iff, not_true_eq_false, not_false_eq_true, eq_self, Nat.not_lt_zero, z10, z01, or_true, true_or, or_false, false_or, true_and, false_and, h2]) (st_t (by simp (disch := first | omega | decide) only [lt1, nnMl, nnMr, nnAl, nnAr, nnA, nnM, nnB, nnT, nnP, nnE, nnEl, nnEr, nnL, nnLl, nnLr, nnQ, nnQr, nnN, Nat.add_zero, if_false, if_true, Option.bind_some, not_true, not_false_iff, not_true_eq_false, not_false_eq_true, eq_self, Nat.not_lt_zero, z10, z01, or_true, true_or, or_false, false_or, true_and, false_and, hj14]) (st_f (fun e => e q) (st_b rfl ?_)))
        rw [ep]
        refine st_w (by simp (disch := first | omega | decide) only [lt1, nnMl, nnMr, nnAl, nnAr, nnA, nnM, nnB, nnT, nnP, nnE, nnEl, nnEr, nnL, nnLl, nnLr, nnQ, nnQr, nnN, Nat.add_zero, if_false, if_true, Option.bind_some, not_true, not_false_iff, not_true_eq_false, not_false_eq_true, eq_self, Nat.not_lt_zero, z10, z01, or_true, true_or, or_false, false_or, true_and, false_and, hp]) (st_w (by simp (disch := first | omega | decide) only [lt1, nnMl, nnMr, nnAl, nnAr, nnA, nnM, nnB, nnT, nnP, nnE, nnEl, nnEr, nnL, nnLl, nnLr, nnQ, nnQr, nnN, Nat.add_zero, if_false, if_true, Option.bind_some, not_true, not_false_iff, not_true_eq_false, not_false_eq_true, eq_self, Nat.not_lt_zero, z10, z01, or_true, true_or, or_false, false_or, true_and, false_and, hp]) ?_)
        rw [sc_e, nnT (by omega), sc_u]
        exact r1
      · unfold m_comes_k1_5 m_wayAt_k1
        rw [sc_e, ha 1 (by omega) (by omega), h.aC, ha 3 (by omega) (by omega), h.aQ, e1]
        have ep : 290 + 9 * (14 + nn j) + (nn Q - nn Q / 9 * 9) = nn (416 + (j * 9 + Q % 9)) := by
          have e : nn Q / 9 * 9 = nn (Q / 9 * 9) := by simp (disch := first | omega | decide) only [lt1, nnMl, nnMr, nnAl, nnAr, nnA, nnM, nnB, nnT, nnP, nnE, nnEl, nnEr, nnL, nnLl, nnLr, nnQ, nnQr, nnN, Nat.add_zero, if_false, if_true, Option.bind_some, not_true, not_false_iff, not_true_eq_false, not_false_eq_true, eq_self, Nat.not_lt_zero, z10, z01, or_true, true_or, or_false, false_or, true_and, false_and, nnDr]
          rw [e, nnS (a := Q) (b := Q / 9 * 9) (by omega), show Q - Q / 9 * 9 = Q % 9 by omega, show 416 + (j * 9 + Q % 9) = 290 + 9 * (14 + j) + Q % 9 by omega]
          simp (disch := first | omega | decide) only [lt1, nnMl, nnMr, nnAl, nnAr, nnA, nnM, nnB, nnT, nnP, nnE, nnEl, nnEr, nnL, nnLl, nnLr, nnQ, nnQr, nnN, Nat.add_zero, if_false, if_true, Option.bind_some, not_true, not_false_iff, not_true_eq_false, not_false_eq_true, eq_self, Nat.not_lt_zero, z10, z01, or_true, true_or, or_false, false_or, true_and, false_and]
        refine st_f (by simp (disch := first | omega | decide) only [lt1, nnMl, nnMr, nnAl, nnAr, nnA, nnM, nnB, nnT, nnP, nnE, nnEl, nnEr, nnL, nnLl, nnLr, nnQ, nnQr, nnN, Nat.add_zero, if_false, if_true, Option.bind_some, not_true, not_false_iff, not_true_eq_false, not_false_eq_true, eq_self, Nat.not_lt_zero, z10, z01, or_true, true_or, or_false, false_or, true_and, false_and, h2]) (st_b hch (st_t q (st_b rfl ?_)))
        rw [ep]
        refine st_w (by simp (disch := first | omega | decide) only [lt1, nnMl, nnMr, nnAl, nnAr, nnA, nnM, nnB, nnT, nnP, nnE, nnEl, nnEr, nnL, nnLl, nnLr, nnQ, nnQr, nnN, Nat.add_zero, if_false, if_true, Option.bind_some, not_true, not_false_iff, not_true_eq_false, not_false_eq_true, eq_self, Nat.not_lt_zero, z10, z01, or_true, true_or, or_false, false_or, true_and, false_and, hp2]) (st_w (by simp (disch := first | omega | decide) only [lt1, nnMl, nnMr, nnAl, nnAr, nnA, nnM, nnB, nnT, nnP, nnE, nnEl, nnEr, nnL, nnLl, nnLr, nnQ, nnQr, nnN, Nat.add_zero, if_false, if_true, Option.bind_some, not_true, not_false_iff, not_true_eq_false, not_false_eq_true, eq_self, Nat.not_lt_zero, z10, z01, or_true, true_or, or_false, false_or, true_and, false_and, hp2]) ?_)
        rw [nnT (by omega), sc_u, hf _ hp]
        exact r2
      · by_cases e2 : i = j * 9 + Q % 9
        · rw [e2, up1_eq]
        · rw [up1_ne e2]; exact e
      · rw [r7, sumTo_u hp, Int32.add_assoc, show (0 : Int32) - f (j * 9 + Q % 9) + (came + f (j * 9 + Q % 9)) = came by rw [Int32.add_comm came, ← Int32.add_assoc, Int32.sub_add_cancel, Int32.zero_add]]
    · obtain ⟨came2, f2, a2, r1, r2, r3⟩ := ih (j + 1) F G came f a (by omega) (by omega) (by omega) ha h13 hf
      refine ⟨came2, f2, a2, ?_, ?_, r3⟩
      · unfold net_takeArrivals_k1_5
        rw [sc_n (by decide), h.cC, sc_n (by decide), nnT (by omega), e1]
        exact st_f (by simp (disch := first | omega | decide) only [lt1, nnMl, nnMr, nnAl, nnAr, nnA, nnM, nnB, nnT, nnP, nnE, nnEl, nnEr, nnL, nnLl, nnLr, nnQ, nnQr, nnN, Nat.add_zero, if_false, if_true, Option.bind_some, not_true, not_false_iff, not_true_eq_false, not_false_eq_true, eq_self, Nat.not_lt_zero, z10, z01, or_true, true_or, or_false, false_or, true_and, false_and, h2]) (st_t (by simp (disch := first | omega | decide) only [lt1, nnMl, nnMr, nnAl, nnAr, nnA, nnM, nnB, nnT, nnP, nnE, nnEl, nnEr, nnL, nnLl, nnLr, nnQ, nnQr, nnN, Nat.add_zero, if_false, if_true, Option.bind_some, not_true, not_false_iff, not_true_eq_false, not_false_eq_true, eq_self, Nat.not_lt_zero, z10, z01, or_true, true_or, or_false, false_or, true_and, false_and, hj14]) (st_t q r1))
      · unfold m_comes_k1_5
        rw [sc_e, ha 1 (by omega) (by omega), h.aC, e1]
        exact st_f (by simp (disch := first | omega | decide) only [lt1, nnMl, nnMr, nnAl, nnAr, nnA, nnM, nnB, nnT, nnP, nnE, nnEl, nnEr, nnL, nnLl, nnLr, nnQ, nnQr, nnN, Nat.add_zero, if_false, if_true, Option.bind_some, not_true, not_false_iff, not_true_eq_false, not_false_eq_true, eq_self, Nat.not_lt_zero, z10, z01, or_true, true_or, or_false, false_or, true_and, false_and, h2]) (st_b hch (st_f q r2))
