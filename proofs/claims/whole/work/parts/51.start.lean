/-! the start is related -/
section SX
set_option maxRecDepth 100000 in
theorem RT_start : RT g00 (g00 216) := by
  have z17 : ∀ i, i < 126 → g00 17 i = 0 := by decide +kernel
  have z18 : ∀ i, i < 126 → g00 18 i = 0 := by decide +kernel
  have z7 : ∀ i, i < 10 → g00 7 i = 0 ∧ g00 8 i = 0 := by decide +kernel
  have su : ∀ (k3 f : Nat → Int32) (K : Int32), (∀ i, i < 10 → f i = 0) → (0 : Int32) = sumTo (fun n => if k3 n = K then f n else 0) 10 := fun k3 f K h => (sumTo_z (fun i hi => by rw [h i hi, ite_self])).symm
  refine ⟨0, 0, 0, 0, 0, 0, 0, RTn.mk ?_ ?_ ?_ ?_⟩
  · apply RNet.mk
    case hN => decide +kernel
    case hC => decide +kernel
    case hQ => decide +kernel
    case cN => decide +kernel
    case aN => decide +kernel
    case cC => decide +kernel
    case aC => decide +kernel
    case cQ => decide +kernel
    case aQ => decide +kernel
    case kind => decide +kernel
    case size => decide +kernel
    case gate => decide +kernel
    case kep0 => decide +kernel
    case kep1 => decide +kernel
    case frm => decide +kernel
    case to => decide +kernel
    case low => decide +kernel
    case hig => decide +kernel
    case trv => decide +kernel
    case brd => decide +kernel
    case brk => decide +kernel
    case way0 => decide +kernel
    case way1 => decide +kernel
    case gateV => exact fun n hn => absurd hn (by omega)
    case ends => exact fun n hn => absurd hn (by omega)
    case lowV => exact fun n hn => absurd hn (by omega)
    case higV => exact fun n hn => absurd hn (by omega)
    case trvV => exact fun n hn => absurd hn (by omega)
    case brdV => exact fun n hn => absurd hn (by omega)
    case brkV => decide +kernel
    case kindV => exact fun n hn => absurd hn (by omega)
    case kepZ => exact fun n _ hn => z7 n hn
    case brkZ => exact fun n _ hn => (show ∀ n, n < 14 → g00 15 n = 0 by decide +kernel) n hn
    case wayZ => exact fun n _ hn => ⟨z17 n hn, z18 n hn⟩
    case su00 => exact (show g00 216 10 = 0 by decide +kernel).trans (su _ _ _ (fun i hi => (z7 i hi).1))
    case su01 => exact (show g00 216 11 = 0 by decide +kernel).trans (su _ _ _ (fun i hi => (z7 i hi).1))
    case su02 => exact (show g00 216 12 = 0 by decide +kernel).trans (su _ _ _ (fun i hi => (z7 i hi).1))
    case su03 => exact (show g00 216 13 = 0 by decide +kernel).trans (sumTo_z z17).symm
    case su04 => decide +kernel
    case su05 => decide +kernel
    case su06 => decide +kernel
    case su10 => exact (show g00 216 17 = 0 by decide +kernel).trans (su _ _ _ (fun i hi => (z7 i hi).2))
    case su11 => exact (show g00 216 18 = 0 by decide +kernel).trans (su _ _ _ (fun i hi => (z7 i hi).2))
    case su12 => exact (show g00 216 19 = 0 by decide +kernel).trans (su _ _ _ (fun i hi => (z7 i hi).2))
    case su13 => exact (show g00 216 20 = 0 by decide +kernel).trans (sumTo_z z18).symm
    case su14 => decide +kernel
    case su15 => decide +kernel
    case su16 => decide +kernel
  · apply RRig.mk
    case hD => decide +kernel
    case cD => decide +kernel
    case aD => decide +kernel
    case home => decide +kernel
    case homeV => exact fun n hn => Or.inl ((show ∀ n, n < 8 → g00 23 n = -1 by decide +kernel) n hn)
    case d0 => decide +kernel
    case d1 => decide +kernel
    case d2 => decide +kernel
    case d3 => decide +kernel
    case d4 => decide +kernel
    case d5 => decide +kernel
    case dFL => exact fun n hn => absurd hn (by omega)
    case dW => exact fun n hn => absurd hn (by omega)
    case dS => exact fun n hn => absurd hn (by omega)
    case dY => exact fun n hn => absurd hn (by omega)
    case dV => exact fun n hn => absurd hn (by omega)
    case cR => decide +kernel
    case aR => decide +kernel
    case runs => decide +kernel
    case runV => exact fun n hn => Or.inr ⟨0, by decide, (show ∀ n, n < 2400 → g00 30 n = nn 0 by decide +kernel) n hn⟩
  · apply RLaw.mk
    case hT => decide +kernel
    case hL => decide +kernel
    case cT => decide +kernel
    case aT => decide +kernel
    case tape => decide +kernel
    case tapeV => exact fun n hn => ⟨0, (show ∀ n, n < 500 → g00 32 n = Int8.toInt32 0 by decide +kernel) n hn⟩
    case fk => decide +kernel
    case fp => decide +kernel
    case dry => decide +kernel
    case dryV => decide +kernel
    case cL => decide +kernel
    case aL => decide +kernel
    case ln => exact fun n hn => absurd hn (by omega)
  · apply RGau.mk
    case hG => decide +kernel
    case cG => decide +kernel
    case aG => decide +kernel
    case g0 => decide +kernel
    case g1 => decide +kernel
    case g2 => decide +kernel
    case g3 => decide +kernel
    case gC => exact fun n hn => absurd hn (by omega)
    case gQ => exact fun n hn => absurd hn (by omega)
    case gI => exact fun n hn => absurd hn (by omega)
    case gO => exact fun n hn => absurd hn (by omega)
theorem RI_start : RI g00 := by
  intro k hk
  have h1 : ∀ k, k < 3 → g00 217 k = g00 186 k := by decide +kernel
  have h2 : ∀ k, k < 3 → g00 186 k = 0 := by decide +kernel
  refine ⟨h1 k hk, Or.inl (h2 k hk), fun e => ?_⟩
  rw [h2 k hk] at e
  exact absurd e (by decide)
end SX
