/-! The walk of the law, given the simulation of each method -/
section LW
variable {ρ : Type} {X : Xx} {d : Nat} {rt : Option FieldType} {k : List (Nat × En)} {f : ρ → Out} {pc pc' : Nat} {L : Lc} {st : List Value} {g g' : Sg} {x : Option ρ} {e : En}
theorem L_sc {i : Int32} {j : Nat} {au : List Nat} {w : Int} (hc : lkp k pc = some (.iaload, 1, au, w)) (hi : inb i X.1 = true ∧ i.toNatClampNeg = j) (hp : pc + 1 = pc') (h : Lt X d rt k f pc' L (.int (X.2.1 j) :: st) g x) : Lt X d rt k f pc L (.int i :: .ref 1000 :: st) g x := by
  subst hp
  obtain ⟨hi, rfl⟩ := hi
  refine L_s hc ?_ h
  show (match shOf X (SHF, g) 1000 with | some (t, n, _) => if (fun t _ => t == 0) t 1000 && inb i n then some (pc + 1, L, Value.int (rdv X g 1000 i.toNatClampNeg) :: st, none) else none | none => none : Option Nx) = _
  show (if (true && inb i X.1) = true then some (pc + 1, L, Value.int (rdv X g 1000 i.toNatClampNeg) :: st, none) else none : Option Nx) = _
  rw [hi]
  rfl
theorem L_call {mid : Nat} {as rest : List Value} {v : Option Value} (hc : lkp k pc = some e) (hk : callOf X (SHF, g) e st = some (mid, as, rest)) (hcall : EvM zft mtl X d mid as (SHF, g) (v, (SHF, g'))) (hp : pc + 3 = pc') (h : Lt X d rt k f pc' L (v.toList ++ rest) g' x) : Lt X d rt k f pc L st g x := fun r hr => by
  obtain ⟨n, h3⟩ := h r hr
  subst hp
  exact ⟨n + 1, Or.inr ⟨e, hc, Or.inr (Or.inr ⟨_, hk, _, hcall, h3⟩)⟩⟩
end LW
theorem n32 {t : Nat} (h : t < 2147483648) : (Int32.ofNat t).toNatClampNeg = t ∧ (Int32.ofNat t).toInt = t := by
  have h1 : (Int32.ofNat t).toInt = t := by
    rw [Int32.toInt_ofNat', Int.bmod_def, show Int32.size = 4294967296 from rfl]
    omega
  exact ⟨by show (Int32.ofNat t).toInt.toNat = t; rw [h1]; rfl, h1⟩
theorem n32_inb {t n : Nat} (h : t < 2147483648) (hn : t < n) : inb (Int32.ofNat t) n = true := by
  obtain ⟨h1, h2⟩ := n32 h
  unfold inb
  rw [h1]
  have h0 : ¬ Int32.ofNat t < 0 := by
    rw [Int32.lt_iff_toInt_lt, h2]
    show ¬ (t : Int) < 0
    omega
  simp [h0, hn]
theorem ix_ok {X : Xx} {t : Nat} (hX : X.1 ≤ 3584) (j : Nat) (h : t + j < X.1) : inb (Int32.ofNat t + Int32.ofNat j) X.1 = true ∧ (Int32.ofNat t + Int32.ofNat j).toNatClampNeg = t + j := by
  rw [← Int32.ofNat_add]
  exact ⟨n32_inb (by omega) h, (n32 (by omega)).1⟩
theorem ix_ok0 {X : Xx} {t : Nat} (hX : X.1 ≤ 3584) (h : t < X.1) : inb (Int32.ofNat t) X.1 = true ∧ (Int32.ofNat t).toNatClampNeg = t := ⟨n32_inb (by omega) h, (n32 (by omega)).1⟩
theorem and31 (v : Int32) : ∃ k : Nat, k < 32 ∧ v &&& 31 = Int32.ofNat k := by
  refine ⟨(v &&& 31).toUInt32.toNat, ?_, ?_⟩
  · have h : (v &&& 31).toUInt32.toNat = v.toUInt32.toNat &&& 31 := rfl
    rw [h]
    exact Nat.lt_of_le_of_lt Nat.and_le_right (by decide)
  · show _ = UInt32.toInt32 (UInt32.ofNat _)
    rw [UInt32.ofNat_toNat]
    rfl
theorem lwSub {n : Nat} (h : n ≤ 3584) : (Int32.ofNat n - 7).toInt = (n : Int) - 7 := by
  have e : Int32.ofNat n - 7 = Int32.ofInt ((n : Int) - 7) := by
    rw [Int32.ofInt_sub]; rfl
  rw [e, Int32.toInt_ofInt, Int.bmod_def, show Int32.size = 4294967296 from rfl]
  omega
theorem lwC {X : Xx} {t : Nat} (hX : X.1 ≤ 3584) (h1 : t ≤ X.1) (h : ¬ t + 7 ≤ X.1) : Int32.ofNat X.1 - 7 < Int32.ofNat t := by
  rw [Int32.lt_iff_toInt_lt, lwSub hX, (n32 (show t < 2147483648 by omega)).2]
  omega
theorem lwD {X : Xx} {t : Nat} (hX : X.1 ≤ 3584) (h : t + 7 ≤ X.1) : ¬ Int32.ofNat X.1 - 7 < Int32.ofNat t := by
  rw [Int32.lt_iff_toInt_lt, lwSub hX, (n32 (show t < 2147483648 by omega)).2]
  omega
abbrev fL : Sg → Out := fun g => (some (.int 1), (SHF, g))
abbrev LL (t : Nat) : Lc := [some (.ref 1000), some (.ref 0), some (.ref 215), some (.int (Int32.ofNat t))]
abbrev Nd (X : Xx) (pc t : Nat) (g : Sg) : Prop := ∃ g', Lt X 50 (some .boolean) k_240 fL pc (LL t) [] g (some g')

def Sim_node (RR : Sg → Prop) : Prop := ∀ (v1 : Int32) (v2 : Int32) (g : Sg), RR g → ∃ (F1 F2 : Nat) (a : Int32) (g1 g2 : Sg), x_node v1 v2 g = some (a, g1) ∧ m_node v1 v2 g1 = some (a, g2) ∧ RR g2
set_option maxRecDepth 40000 in
theorem lw_node {RR : Sg → Prop} (hS : Sim_node RR) {X : Xx} {t : Nat} {g : Sg} (hX : X.1 ≤ 3584) (ht : t + 7 ≤ X.1) (hR : RR g) (hn : ∀ g2, RR g2 → Nd X 1392 t g2) : Nd X 176 t g := by
  obtain ⟨F1, F2, a, g1, g2, h1, h2, hR2⟩ := hS (X.2.1 (t + 1)) (X.2.1 (t + 2)) g hR
  obtain ⟨g9, h9⟩ := hn _ hR2
  refine ⟨g9, ?_⟩
  refine L_s (pc' := 177) rfl rfl ?_
  refine L_s (pc' := 178) rfl rfl ?_
  refine L_s (pc' := 179) rfl rfl ?_
  refine L_ic (pc' := 180) rfl q1_1 rfl ?_
  refine L_s (pc' := 181) rfl rfl ?_
  refine L_sc (pc' := 182) rfl (ix_ok hX 1 (by omega)) rfl ?_
  refine L_s (pc' := 183) rfl rfl ?_
  refine L_s (pc' := 184) rfl rfl ?_
  refine L_ic (pc' := 185) rfl q1_2 rfl ?_
  refine L_s (pc' := 186) rfl rfl ?_
  refine L_sc (pc' := 187) rfl (ix_ok hX 2 (by omega)) rfl ?_
  refine L_call (pc' := 190) rfl rfl (e_x_node (d := 50) (by decide) _ _ _ _ h1) rfl ?_
  refine L_s (pc' := 191) rfl rfl ?_
  refine L_s (pc' := 192) rfl rfl ?_
  refine L_s (pc' := 193) rfl rfl ?_
  refine L_ic (pc' := 194) rfl q1_1 rfl ?_
  refine L_s (pc' := 195) rfl rfl ?_
  refine L_sc (pc' := 196) rfl (ix_ok hX 1 (by omega)) rfl ?_
  refine L_s (pc' := 197) rfl rfl ?_
  refine L_s (pc' := 198) rfl rfl ?_
  refine L_ic (pc' := 199) rfl q1_2 rfl ?_
  refine L_s (pc' := 200) rfl rfl ?_
  refine L_sc (pc' := 201) rfl (ix_ok hX 2 (by omega)) rfl ?_
  refine L_call (pc' := 204) rfl rfl (e_m_node (d := 50) (by decide) _ _ _ _ h2) rfl ?_
  refine L_bt (c := a = a) (t := 1392) (n := 207) rfl rfl rfl ?_
  exact h9
def Sim_channel (RR : Sg → Prop) : Prop := ∀ (v1 : Int32) (v2 : Int32) (v3 : Int32) (v4 : Int32) (v5 : Int32) (v6 : Int32) (g : Sg), RR g → ∃ (F1 F2 : Nat) (a : Int32) (g1 g2 : Sg), x_channel v1 v2 v3 v4 v5 v6 g = some (a, g1) ∧ m_channel v1 v2 v3 v4 v5 v6 g1 = some (a, g2) ∧ RR g2
set_option maxRecDepth 40000 in
theorem lw_channel {RR : Sg → Prop} (hS : Sim_channel RR) {X : Xx} {t : Nat} {g : Sg} (hX : X.1 ≤ 3584) (ht : t + 7 ≤ X.1) (hR : RR g) (hn : ∀ g2, RR g2 → Nd X 1392 t g2) : Nd X 209 t g := by
  obtain ⟨F1, F2, a, g1, g2, h1, h2, hR2⟩ := hS (X.2.1 (t + 1)) (X.2.1 (t + 2)) (X.2.1 (t + 3)) (X.2.1 (t + 4)) (X.2.1 (t + 5)) (X.2.1 (t + 6)) g hR
  obtain ⟨g9, h9⟩ := hn _ hR2
  refine ⟨g9, ?_⟩
  refine L_s (pc' := 210) rfl rfl ?_
  refine L_s (pc' := 211) rfl rfl ?_
  refine L_s (pc' := 212) rfl rfl ?_
  refine L_ic (pc' := 213) rfl q1_1 rfl ?_
  refine L_s (pc' := 214) rfl rfl ?_
  refine L_sc (pc' := 215) rfl (ix_ok hX 1 (by omega)) rfl ?_
  refine L_s (pc' := 216) rfl rfl ?_
  refine L_s (pc' := 217) rfl rfl ?_
  refine L_ic (pc' := 218) rfl q1_2 rfl ?_
  refine L_s (pc' := 219) rfl rfl ?_
  refine L_sc (pc' := 220) rfl (ix_ok hX 2 (by omega)) rfl ?_
  refine L_s (pc' := 221) rfl rfl ?_
  refine L_s (pc' := 222) rfl rfl ?_
  refine L_ic (pc' := 223) rfl q1_3 rfl ?_
  refine L_s (pc' := 224) rfl rfl ?_
  refine L_sc (pc' := 225) rfl (ix_ok hX 3 (by omega)) rfl ?_
  refine L_s (pc' := 226) rfl rfl ?_
  refine L_s (pc' := 227) rfl rfl ?_
  refine L_ic (pc' := 228) rfl q1_4 rfl ?_
  refine L_s (pc' := 229) rfl rfl ?_
  refine L_sc (pc' := 230) rfl (ix_ok hX 4 (by omega)) rfl ?_
  refine L_s (pc' := 231) rfl rfl ?_
  refine L_s (pc' := 232) rfl rfl ?_
  refine L_ic (pc' := 233) rfl q1_5 rfl ?_
  refine L_s (pc' := 234) rfl rfl ?_
  refine L_sc (pc' := 235) rfl (ix_ok hX 5 (by omega)) rfl ?_
  refine L_s (pc' := 236) rfl rfl ?_
  refine L_s (pc' := 237) rfl rfl ?_
  refine L_bi (pc' := 239) rfl q2_6 rfl ?_
  refine L_s (pc' := 240) rfl rfl ?_
  refine L_sc (pc' := 241) rfl (ix_ok hX 6 (by omega)) rfl ?_
  refine L_call (pc' := 244) rfl rfl (e_x_channel (d := 50) (by decide) _ _ _ _ _ _ _ _ h1) rfl ?_
  refine L_s (pc' := 245) rfl rfl ?_
  refine L_s (pc' := 246) rfl rfl ?_
  refine L_s (pc' := 247) rfl rfl ?_
  refine L_ic (pc' := 248) rfl q1_1 rfl ?_
  refine L_s (pc' := 249) rfl rfl ?_
  refine L_sc (pc' := 250) rfl (ix_ok hX 1 (by omega)) rfl ?_
  refine L_s (pc' := 251) rfl rfl ?_
  refine L_s (pc' := 252) rfl rfl ?_
  refine L_ic (pc' := 253) rfl q1_2 rfl ?_
  refine L_s (pc' := 254) rfl rfl ?_
  refine L_sc (pc' := 255) rfl (ix_ok hX 2 (by omega)) rfl ?_
  refine L_s (pc' := 256) rfl rfl ?_
  refine L_s (pc' := 257) rfl rfl ?_
  refine L_ic (pc' := 258) rfl q1_3 rfl ?_
  refine L_s (pc' := 259) rfl rfl ?_
  refine L_sc (pc' := 260) rfl (ix_ok hX 3 (by omega)) rfl ?_
  refine L_s (pc' := 261) rfl rfl ?_
  refine L_s (pc' := 262) rfl rfl ?_
  refine L_ic (pc' := 263) rfl q1_4 rfl ?_
  refine L_s (pc' := 264) rfl rfl ?_
  refine L_sc (pc' := 265) rfl (ix_ok hX 4 (by omega)) rfl ?_
  refine L_s (pc' := 266) rfl rfl ?_
  refine L_s (pc' := 267) rfl rfl ?_
  refine L_ic (pc' := 268) rfl q1_5 rfl ?_
  refine L_s (pc' := 269) rfl rfl ?_
  refine L_sc (pc' := 270) rfl (ix_ok hX 5 (by omega)) rfl ?_
  refine L_s (pc' := 271) rfl rfl ?_
  refine L_s (pc' := 272) rfl rfl ?_
  refine L_bi (pc' := 274) rfl q2_6 rfl ?_
  refine L_s (pc' := 275) rfl rfl ?_
  refine L_sc (pc' := 276) rfl (ix_ok hX 6 (by omega)) rfl ?_
  refine L_call (pc' := 279) rfl rfl (e_m_channel (d := 50) (by decide) _ _ _ _ _ _ _ _ h2) rfl ?_
  refine L_bt (c := a = a) (t := 1392) (n := 282) rfl rfl rfl ?_
  exact h9
def Sim_size (RR : Sg → Prop) : Prop := ∀ (v1 : Int32) (v2 : Int32) (g : Sg), RR g → ∃ (F1 F2 : Nat) (a : Int32) (g1 g2 : Sg), x_size v1 v2 g = some (a, g1) ∧ m_size v1 v2 g1 = some (a, g2) ∧ RR g2
set_option maxRecDepth 40000 in
theorem lw_size {RR : Sg → Prop} (hS : Sim_size RR) {X : Xx} {t : Nat} {g : Sg} (hX : X.1 ≤ 3584) (ht : t + 7 ≤ X.1) (hR : RR g) (hn : ∀ g2, RR g2 → Nd X 1392 t g2) : Nd X 284 t g := by
  obtain ⟨F1, F2, a, g1, g2, h1, h2, hR2⟩ := hS (X.2.1 (t + 1)) (X.2.1 (t + 2)) g hR
  obtain ⟨g9, h9⟩ := hn _ hR2
  refine ⟨g9, ?_⟩
  refine L_s (pc' := 285) rfl rfl ?_
  refine L_s (pc' := 286) rfl rfl ?_
  refine L_s (pc' := 287) rfl rfl ?_
  refine L_ic (pc' := 288) rfl q1_1 rfl ?_
  refine L_s (pc' := 289) rfl rfl ?_
  refine L_sc (pc' := 290) rfl (ix_ok hX 1 (by omega)) rfl ?_
  refine L_s (pc' := 291) rfl rfl ?_
  refine L_s (pc' := 292) rfl rfl ?_
  refine L_ic (pc' := 293) rfl q1_2 rfl ?_
  refine L_s (pc' := 294) rfl rfl ?_
  refine L_sc (pc' := 295) rfl (ix_ok hX 2 (by omega)) rfl ?_
  refine L_call (pc' := 298) rfl rfl (e_x_size (d := 50) (by decide) _ _ _ _ h1) rfl ?_
  refine L_s (pc' := 299) rfl rfl ?_
  refine L_s (pc' := 300) rfl rfl ?_
  refine L_s (pc' := 301) rfl rfl ?_
  refine L_ic (pc' := 302) rfl q1_1 rfl ?_
  refine L_s (pc' := 303) rfl rfl ?_
  refine L_sc (pc' := 304) rfl (ix_ok hX 1 (by omega)) rfl ?_
  refine L_s (pc' := 305) rfl rfl ?_
  refine L_s (pc' := 306) rfl rfl ?_
  refine L_ic (pc' := 307) rfl q1_2 rfl ?_
  refine L_s (pc' := 308) rfl rfl ?_
  refine L_sc (pc' := 309) rfl (ix_ok hX 2 (by omega)) rfl ?_
  refine L_call (pc' := 312) rfl rfl (e_m_size (d := 50) (by decide) _ _ _ _ h2) rfl ?_
  refine L_bt (c := a = a) (t := 1392) (n := 315) rfl rfl rfl ?_
  exact h9
def Sim_broken (RR : Sg → Prop) : Prop := ∀ (v1 : Int32) (v2 : Int32) (g : Sg), RR g → v2 = 0 ∨ v2 = 1 → ∃ (F1 F2 : Nat) (a : Int32) (g1 g2 : Sg), x_broken F1 v1 v2 g = some (a, g1) ∧ m_broken F2 v1 v2 g1 = some (a, g2) ∧ RR g2
set_option maxRecDepth 40000 in
theorem lw_broken {RR : Sg → Prop} (hS : Sim_broken RR) {X : Xx} {t : Nat} {g : Sg} (hX : X.1 ≤ 3584) (ht : t + 7 ≤ X.1) (hR : RR g) (hn : ∀ g2, RR g2 → Nd X 1392 t g2) : Nd X 317 t g := by
  by_cases h0 : X.2.1 (t + 2) = 0
  · obtain ⟨F1, F2, a, g1, g2, h1, h2, hR2⟩ := hS (X.2.1 (t + 1)) 0 g hR (by decide)
    obtain ⟨g9, h9⟩ := hn _ hR2
    refine ⟨g9, ?_⟩
    refine L_s (pc' := 318) rfl rfl ?_
    refine L_s (pc' := 319) rfl rfl ?_
    refine L_s (pc' := 320) rfl rfl ?_
    refine L_ic (pc' := 321) rfl q1_1 rfl ?_
    refine L_s (pc' := 322) rfl rfl ?_
    refine L_sc (pc' := 323) rfl (ix_ok hX 1 (by omega)) rfl ?_
    refine L_s (pc' := 324) rfl rfl ?_
    refine L_s (pc' := 325) rfl rfl ?_
    refine L_ic (pc' := 326) rfl q1_2 rfl ?_
    refine L_s (pc' := 327) rfl rfl ?_
    refine L_sc (pc' := 328) rfl (ix_ok hX 2 (by omega)) rfl ?_
    refine L_bt (c := X.2.1 (t + 2) = 0) (t := 335) (n := 331) rfl rfl h0 ?_
    refine L_ic (pc' := 336) rfl q1_0 rfl ?_
    refine L_call (pc' := 339) rfl rfl (e_x_broken (d := 50) (by decide) F1 _ _ _ _ h1) rfl ?_
    refine L_s (pc' := 340) rfl rfl ?_
    refine L_s (pc' := 341) rfl rfl ?_
    refine L_s (pc' := 342) rfl rfl ?_
    refine L_ic (pc' := 343) rfl q1_1 rfl ?_
    refine L_s (pc' := 344) rfl rfl ?_
    refine L_sc (pc' := 345) rfl (ix_ok hX 1 (by omega)) rfl ?_
    refine L_s (pc' := 346) rfl rfl ?_
    refine L_s (pc' := 347) rfl rfl ?_
    refine L_ic (pc' := 348) rfl q1_2 rfl ?_
    refine L_s (pc' := 349) rfl rfl ?_
    refine L_sc (pc' := 350) rfl (ix_ok hX 2 (by omega)) rfl ?_
    refine L_bt (c := X.2.1 (t + 2) = 0) (t := 357) (n := 353) rfl rfl h0 ?_
    refine L_ic (pc' := 358) rfl q1_0 rfl ?_
    refine L_call (pc' := 361) rfl rfl (e_m_broken (d := 50) (by decide) F2 _ _ _ _ h2) rfl ?_
    refine L_bt (c := a = a) (t := 1392) (n := 364) rfl rfl rfl ?_
    exact h9
  · obtain ⟨F1, F2, a, g1, g2, h1, h2, hR2⟩ := hS (X.2.1 (t + 1)) 1 g hR (by decide)
    obtain ⟨g9, h9⟩ := hn _ hR2
    refine ⟨g9, ?_⟩
    refine L_s (pc' := 318) rfl rfl ?_
    refine L_s (pc' := 319) rfl rfl ?_
    refine L_s (pc' := 320) rfl rfl ?_
    refine L_ic (pc' := 321) rfl q1_1 rfl ?_
    refine L_s (pc' := 322) rfl rfl ?_
    refine L_sc (pc' := 323) rfl (ix_ok hX 1 (by omega)) rfl ?_
    refine L_s (pc' := 324) rfl rfl ?_
    refine L_s (pc' := 325) rfl rfl ?_
    refine L_ic (pc' := 326) rfl q1_2 rfl ?_
    refine L_s (pc' := 327) rfl rfl ?_
    refine L_sc (pc' := 328) rfl (ix_ok hX 2 (by omega)) rfl ?_
    refine L_bf (c := X.2.1 (t + 2) = 0) (t := 335) (n := 331) rfl rfl h0 ?_
    refine L_ic (pc' := 332) rfl q1_1 rfl ?_
    refine L_s (pc' := 336) rfl rfl ?_
    refine L_call (pc' := 339) rfl rfl (e_x_broken (d := 50) (by decide) F1 _ _ _ _ h1) rfl ?_
    refine L_s (pc' := 340) rfl rfl ?_
    refine L_s (pc' := 341) rfl rfl ?_
    refine L_s (pc' := 342) rfl rfl ?_
    refine L_ic (pc' := 343) rfl q1_1 rfl ?_
    refine L_s (pc' := 344) rfl rfl ?_
    refine L_sc (pc' := 345) rfl (ix_ok hX 1 (by omega)) rfl ?_
    refine L_s (pc' := 346) rfl rfl ?_
    refine L_s (pc' := 347) rfl rfl ?_
    refine L_ic (pc' := 348) rfl q1_2 rfl ?_
    refine L_s (pc' := 349) rfl rfl ?_
    refine L_sc (pc' := 350) rfl (ix_ok hX 2 (by omega)) rfl ?_
    refine L_bf (c := X.2.1 (t + 2) = 0) (t := 357) (n := 353) rfl rfl h0 ?_
    refine L_ic (pc' := 354) rfl q1_1 rfl ?_
    refine L_s (pc' := 358) rfl rfl ?_
    refine L_call (pc' := 361) rfl rfl (e_m_broken (d := 50) (by decide) F2 _ _ _ _ h2) rfl ?_
    refine L_bt (c := a = a) (t := 1392) (n := 364) rfl rfl rfl ?_
    exact h9
def Sim_open (RR : Sg → Prop) : Prop := ∀ (v1 : Int32) (v2 : Int32) (g : Sg), RR g → ∃ (F1 F2 : Nat) (a : Int32) (g1 g2 : Sg), x_open v1 v2 g = some (a, g1) ∧ m_open v1 v2 g1 = some (a, g2) ∧ RR g2
set_option maxRecDepth 40000 in
theorem lw_open {RR : Sg → Prop} (hS : Sim_open RR) {X : Xx} {t : Nat} {g : Sg} (hX : X.1 ≤ 3584) (ht : t + 7 ≤ X.1) (hR : RR g) (hn : ∀ g2, RR g2 → Nd X 1392 t g2) : Nd X 366 t g := by
  obtain ⟨F1, F2, a, g1, g2, h1, h2, hR2⟩ := hS (X.2.1 (t + 1)) (X.2.1 (t + 2)) g hR
  obtain ⟨g9, h9⟩ := hn _ hR2
  refine ⟨g9, ?_⟩
  refine L_s (pc' := 367) rfl rfl ?_
  refine L_s (pc' := 368) rfl rfl ?_
  refine L_s (pc' := 369) rfl rfl ?_
  refine L_ic (pc' := 370) rfl q1_1 rfl ?_
  refine L_s (pc' := 371) rfl rfl ?_
  refine L_sc (pc' := 372) rfl (ix_ok hX 1 (by omega)) rfl ?_
  refine L_s (pc' := 373) rfl rfl ?_
  refine L_s (pc' := 374) rfl rfl ?_
  refine L_ic (pc' := 375) rfl q1_2 rfl ?_
  refine L_s (pc' := 376) rfl rfl ?_
  refine L_sc (pc' := 377) rfl (ix_ok hX 2 (by omega)) rfl ?_
  refine L_call (pc' := 380) rfl rfl (e_x_open (d := 50) (by decide) _ _ _ _ h1) rfl ?_
  refine L_s (pc' := 381) rfl rfl ?_
  refine L_s (pc' := 382) rfl rfl ?_
  refine L_s (pc' := 383) rfl rfl ?_
  refine L_ic (pc' := 384) rfl q1_1 rfl ?_
  refine L_s (pc' := 385) rfl rfl ?_
  refine L_sc (pc' := 386) rfl (ix_ok hX 1 (by omega)) rfl ?_
  refine L_s (pc' := 387) rfl rfl ?_
  refine L_s (pc' := 388) rfl rfl ?_
  refine L_ic (pc' := 389) rfl q1_2 rfl ?_
  refine L_s (pc' := 390) rfl rfl ?_
  refine L_sc (pc' := 391) rfl (ix_ok hX 2 (by omega)) rfl ?_
  refine L_call (pc' := 394) rfl rfl (e_m_open (d := 50) (by decide) _ _ _ _ h2) rfl ?_
  refine L_bt (c := a = a) (t := 1392) (n := 397) rfl rfl rfl ?_
  exact h9
def Sim_path (RR : Sg → Prop) : Prop := ∀ (v1 : Int32) (v2 : Int32) (g : Sg), RR g → ∃ (F1 F2 : Nat) (a : Int32) (g1 g2 : Sg), x_path F1 v1 v2 g = some (a, g1) ∧ m_path F2 v1 v2 g1 = some (a, g2) ∧ RR g2
set_option maxRecDepth 40000 in
theorem lw_path {RR : Sg → Prop} (hS : Sim_path RR) {X : Xx} {t : Nat} {g : Sg} (hX : X.1 ≤ 3584) (ht : t + 7 ≤ X.1) (hR : RR g) (hn : ∀ g2, RR g2 → Nd X 1392 t g2) : Nd X 399 t g := by
  obtain ⟨F1, F2, a, g1, g2, h1, h2, hR2⟩ := hS (X.2.1 (t + 1)) (X.2.1 (t + 2)) g hR
  obtain ⟨g9, h9⟩ := hn _ hR2
  refine ⟨g9, ?_⟩
  refine L_s (pc' := 400) rfl rfl ?_
  refine L_s (pc' := 401) rfl rfl ?_
  refine L_s (pc' := 402) rfl rfl ?_
  refine L_ic (pc' := 403) rfl q1_1 rfl ?_
  refine L_s (pc' := 404) rfl rfl ?_
  refine L_sc (pc' := 405) rfl (ix_ok hX 1 (by omega)) rfl ?_
  refine L_s (pc' := 406) rfl rfl ?_
  refine L_s (pc' := 407) rfl rfl ?_
  refine L_ic (pc' := 408) rfl q1_2 rfl ?_
  refine L_s (pc' := 409) rfl rfl ?_
  refine L_sc (pc' := 410) rfl (ix_ok hX 2 (by omega)) rfl ?_
  refine L_call (pc' := 413) rfl rfl (e_x_path (d := 50) (by decide) F1 _ _ _ _ h1) rfl ?_
  refine L_s (pc' := 414) rfl rfl ?_
  refine L_s (pc' := 415) rfl rfl ?_
  refine L_s (pc' := 416) rfl rfl ?_
  refine L_ic (pc' := 417) rfl q1_1 rfl ?_
  refine L_s (pc' := 418) rfl rfl ?_
  refine L_sc (pc' := 419) rfl (ix_ok hX 1 (by omega)) rfl ?_
  refine L_s (pc' := 420) rfl rfl ?_
  refine L_s (pc' := 421) rfl rfl ?_
  refine L_ic (pc' := 422) rfl q1_2 rfl ?_
  refine L_s (pc' := 423) rfl rfl ?_
  refine L_sc (pc' := 424) rfl (ix_ok hX 2 (by omega)) rfl ?_
  refine L_call (pc' := 427) rfl rfl (e_m_path (d := 50) (by decide) F2 _ _ _ _ h2) rfl ?_
  refine L_bt (c := a = a) (t := 1392) (n := 430) rfl rfl rfl ?_
  exact h9
def Sim_along (RR : Sg → Prop) : Prop := ∀ (v1 : Int32) (v2 : Int32) (v3 : Int32) (g : Sg), RR g → ∃ (F1 F2 : Nat) (a : Int32) (g1 g2 : Sg), x_along F1 v1 v2 v3 g = some (a, g1) ∧ m_along F2 v1 v2 v3 g1 = some (a, g2) ∧ RR g2
set_option maxRecDepth 40000 in
theorem lw_along {RR : Sg → Prop} (hS : Sim_along RR) {X : Xx} {t : Nat} {g : Sg} (hX : X.1 ≤ 3584) (ht : t + 7 ≤ X.1) (hR : RR g) (hn : ∀ g2, RR g2 → Nd X 1392 t g2) : Nd X 432 t g := by
  obtain ⟨F1, F2, a, g1, g2, h1, h2, hR2⟩ := hS (X.2.1 (t + 1)) (X.2.1 (t + 2)) (X.2.1 (t + 3)) g hR
  obtain ⟨g9, h9⟩ := hn _ hR2
  refine ⟨g9, ?_⟩
  refine L_s (pc' := 433) rfl rfl ?_
  refine L_s (pc' := 434) rfl rfl ?_
  refine L_s (pc' := 435) rfl rfl ?_
  refine L_ic (pc' := 436) rfl q1_1 rfl ?_
  refine L_s (pc' := 437) rfl rfl ?_
  refine L_sc (pc' := 438) rfl (ix_ok hX 1 (by omega)) rfl ?_
  refine L_s (pc' := 439) rfl rfl ?_
  refine L_s (pc' := 440) rfl rfl ?_
  refine L_ic (pc' := 441) rfl q1_2 rfl ?_
  refine L_s (pc' := 442) rfl rfl ?_
  refine L_sc (pc' := 443) rfl (ix_ok hX 2 (by omega)) rfl ?_
  refine L_s (pc' := 444) rfl rfl ?_
  refine L_s (pc' := 445) rfl rfl ?_
  refine L_ic (pc' := 446) rfl q1_3 rfl ?_
  refine L_s (pc' := 447) rfl rfl ?_
  refine L_sc (pc' := 448) rfl (ix_ok hX 3 (by omega)) rfl ?_
  refine L_call (pc' := 451) rfl rfl (e_x_along (d := 50) (by decide) F1 _ _ _ _ _ h1) rfl ?_
  refine L_s (pc' := 452) rfl rfl ?_
  refine L_s (pc' := 453) rfl rfl ?_
  refine L_s (pc' := 454) rfl rfl ?_
  refine L_ic (pc' := 455) rfl q1_1 rfl ?_
  refine L_s (pc' := 456) rfl rfl ?_
  refine L_sc (pc' := 457) rfl (ix_ok hX 1 (by omega)) rfl ?_
  refine L_s (pc' := 458) rfl rfl ?_
  refine L_s (pc' := 459) rfl rfl ?_
  refine L_ic (pc' := 460) rfl q1_2 rfl ?_
  refine L_s (pc' := 461) rfl rfl ?_
  refine L_sc (pc' := 462) rfl (ix_ok hX 2 (by omega)) rfl ?_
  refine L_s (pc' := 463) rfl rfl ?_
  refine L_s (pc' := 464) rfl rfl ?_
  refine L_ic (pc' := 465) rfl q1_3 rfl ?_
  refine L_s (pc' := 466) rfl rfl ?_
  refine L_sc (pc' := 467) rfl (ix_ok hX 3 (by omega)) rfl ?_
  refine L_call (pc' := 470) rfl rfl (e_m_along (d := 50) (by decide) F2 _ _ _ _ _ h2) rfl ?_
  refine L_bt (c := a = a) (t := 1392) (n := 473) rfl rfl rfl ?_
  exact h9
def Sim_go (RR : Sg → Prop) : Prop := ∀ (v1 : Int32) (g : Sg), RR g → ∃ (F1 F2 : Nat) (a : Int32) (g1 g2 : Sg), x_go F1 v1 g = some (a, g1) ∧ m_go F2 v1 g1 = some (a, g2) ∧ RR g2
set_option maxRecDepth 40000 in
theorem lw_go {RR : Sg → Prop} (hS : Sim_go RR) {X : Xx} {t : Nat} {g : Sg} (hX : X.1 ≤ 3584) (ht : t + 7 ≤ X.1) (hR : RR g) (hn : ∀ g2, RR g2 → Nd X 1392 t g2) : Nd X 475 t g := by
  obtain ⟨F1, F2, a, g1, g2, h1, h2, hR2⟩ := hS (X.2.1 (t + 1)) g hR
  obtain ⟨g9, h9⟩ := hn _ hR2
  refine ⟨g9, ?_⟩
  refine L_s (pc' := 476) rfl rfl ?_
  refine L_s (pc' := 477) rfl rfl ?_
  refine L_s (pc' := 478) rfl rfl ?_
  refine L_ic (pc' := 479) rfl q1_1 rfl ?_
  refine L_s (pc' := 480) rfl rfl ?_
  refine L_sc (pc' := 481) rfl (ix_ok hX 1 (by omega)) rfl ?_
  refine L_call (pc' := 484) rfl rfl (e_x_go (d := 50) (by decide) F1 _ _ _ h1) rfl ?_
  refine L_s (pc' := 485) rfl rfl ?_
  refine L_s (pc' := 486) rfl rfl ?_
  refine L_s (pc' := 487) rfl rfl ?_
  refine L_ic (pc' := 488) rfl q1_1 rfl ?_
  refine L_s (pc' := 489) rfl rfl ?_
  refine L_sc (pc' := 490) rfl (ix_ok hX 1 (by omega)) rfl ?_
  refine L_call (pc' := 493) rfl rfl (e_m_go (d := 50) (by decide) F2 _ _ _ h2) rfl ?_
  refine L_bt (c := a = a) (t := 1392) (n := 496) rfl rfl rfl ?_
  exact h9
def Sim_about (RR : Sg → Prop) : Prop := ∀ (v1 : Int32) (v2 : Int32) (g : Sg), RR g → ∃ (F1 F2 : Nat) (a : Int32) (g1 g2 : Sg), x_about v1 v2 g = some a ∧ m_about v1 v2 g = some a ∧ RR g2 ∧ g1 = g ∧ g2 = g
set_option maxRecDepth 40000 in
theorem lw_about {RR : Sg → Prop} (hS : Sim_about RR) {X : Xx} {t : Nat} {g : Sg} (hX : X.1 ≤ 3584) (ht : t + 7 ≤ X.1) (hR : RR g) (hn : ∀ g2, RR g2 → Nd X 1392 t g2) : Nd X 498 t g := by
  obtain ⟨F1, F2, a, g1, g2, h1, h2, hR2, e1, e2⟩ := hS (X.2.1 (t + 1)) (X.2.1 (t + 2)) g hR
  subst e1
  subst e2
  obtain ⟨g9, h9⟩ := hn _ hR2
  refine ⟨g9, ?_⟩
  refine L_s (pc' := 499) rfl rfl ?_
  refine L_s (pc' := 500) rfl rfl ?_
  refine L_s (pc' := 501) rfl rfl ?_
  refine L_ic (pc' := 502) rfl q1_1 rfl ?_
  refine L_s (pc' := 503) rfl rfl ?_
  refine L_sc (pc' := 504) rfl (ix_ok hX 1 (by omega)) rfl ?_
  refine L_s (pc' := 505) rfl rfl ?_
  refine L_s (pc' := 506) rfl rfl ?_
  refine L_ic (pc' := 507) rfl q1_2 rfl ?_
  refine L_s (pc' := 508) rfl rfl ?_
  refine L_sc (pc' := 509) rfl (ix_ok hX 2 (by omega)) rfl ?_
  refine L_call (pc' := 512) rfl rfl (e_x_about (d := 50) (by decide) _ _ _ _ h1) rfl ?_
  refine L_s (pc' := 513) rfl rfl ?_
  refine L_s (pc' := 514) rfl rfl ?_
  refine L_s (pc' := 515) rfl rfl ?_
  refine L_ic (pc' := 516) rfl q1_1 rfl ?_
  refine L_s (pc' := 517) rfl rfl ?_
  refine L_sc (pc' := 518) rfl (ix_ok hX 1 (by omega)) rfl ?_
  refine L_s (pc' := 519) rfl rfl ?_
  refine L_s (pc' := 520) rfl rfl ?_
  refine L_ic (pc' := 521) rfl q1_2 rfl ?_
  refine L_s (pc' := 522) rfl rfl ?_
  refine L_sc (pc' := 523) rfl (ix_ok hX 2 (by omega)) rfl ?_
  refine L_call (pc' := 526) rfl rfl (e_m_about (d := 50) (by decide) _ _ _ _ h2) rfl ?_
  refine L_bt (c := a = a) (t := 1392) (n := 529) rfl rfl rfl ?_
  exact h9
def Sim_look (RR : Sg → Prop) : Prop := ∀ (v1 : Int32) (v2 : Int32) (g : Sg), RR g → ∃ (F1 F2 : Nat) (a : Int32) (g1 g2 : Sg), x_look F1 v1 v2 g = some a ∧ m_look F2 v1 v2 g = some a ∧ RR g2 ∧ g1 = g ∧ g2 = g
set_option maxRecDepth 40000 in
theorem lw_look {RR : Sg → Prop} (hS : Sim_look RR) {X : Xx} {t : Nat} {g : Sg} (hX : X.1 ≤ 3584) (ht : t + 7 ≤ X.1) (hR : RR g) (hn : ∀ g2, RR g2 → Nd X 1392 t g2) : Nd X 531 t g := by
  obtain ⟨F1, F2, a, g1, g2, h1, h2, hR2, e1, e2⟩ := hS (X.2.1 (t + 1)) (X.2.1 (t + 2)) g hR
  subst e1
  subst e2
  obtain ⟨g9, h9⟩ := hn _ hR2
  refine ⟨g9, ?_⟩
  refine L_s (pc' := 532) rfl rfl ?_
  refine L_s (pc' := 533) rfl rfl ?_
  refine L_s (pc' := 534) rfl rfl ?_
  refine L_ic (pc' := 535) rfl q1_1 rfl ?_
  refine L_s (pc' := 536) rfl rfl ?_
  refine L_sc (pc' := 537) rfl (ix_ok hX 1 (by omega)) rfl ?_
  refine L_s (pc' := 538) rfl rfl ?_
  refine L_s (pc' := 539) rfl rfl ?_
  refine L_ic (pc' := 540) rfl q1_2 rfl ?_
  refine L_s (pc' := 541) rfl rfl ?_
  refine L_sc (pc' := 542) rfl (ix_ok hX 2 (by omega)) rfl ?_
  refine L_call (pc' := 545) rfl rfl (e_x_look (d := 50) (by decide) F1 _ _ _ _ h1) rfl ?_
  refine L_s (pc' := 546) rfl rfl ?_
  refine L_s (pc' := 547) rfl rfl ?_
  refine L_s (pc' := 548) rfl rfl ?_
  refine L_ic (pc' := 549) rfl q1_1 rfl ?_
  refine L_s (pc' := 550) rfl rfl ?_
  refine L_sc (pc' := 551) rfl (ix_ok hX 1 (by omega)) rfl ?_
  refine L_s (pc' := 552) rfl rfl ?_
  refine L_s (pc' := 553) rfl rfl ?_
  refine L_ic (pc' := 554) rfl q1_2 rfl ?_
  refine L_s (pc' := 555) rfl rfl ?_
  refine L_sc (pc' := 556) rfl (ix_ok hX 2 (by omega)) rfl ?_
  refine L_call (pc' := 559) rfl rfl (e_m_look (d := 50) (by decide) F2 _ _ _ _ h2) rfl ?_
  refine L_bt (c := a = a) (t := 1392) (n := 562) rfl rfl rfl ?_
  exact h9
def Sim_all (RR : Sg → Prop) : Prop := ∀ (v1 : Int32) (v2 : Int32) (g : Sg), RR g → v2 = 0 ∨ v2 = 1 → ∃ (F1 F2 : Nat) (a : Int32) (g1 g2 : Sg), x_all F1 v1 v2 g = some a ∧ m_all v1 v2 g = some a ∧ RR g2 ∧ g1 = g ∧ g2 = g
set_option maxRecDepth 40000 in
theorem lw_all {RR : Sg → Prop} (hS : Sim_all RR) {X : Xx} {t : Nat} {g : Sg} (hX : X.1 ≤ 3584) (ht : t + 7 ≤ X.1) (hR : RR g) (hn : ∀ g2, RR g2 → Nd X 1392 t g2) : Nd X 564 t g := by
  by_cases h0 : X.2.1 (t + 2) = 0
  · obtain ⟨F1, F2, a, g1, g2, h1, h2, hR2, e1, e2⟩ := hS (X.2.1 (t + 1)) 0 g hR (by decide)
    subst e1
    subst e2
    obtain ⟨g9, h9⟩ := hn _ hR2
    refine ⟨g9, ?_⟩
    refine L_s (pc' := 565) rfl rfl ?_
    refine L_s (pc' := 566) rfl rfl ?_
    refine L_s (pc' := 567) rfl rfl ?_
    refine L_ic (pc' := 568) rfl q1_1 rfl ?_
    refine L_s (pc' := 569) rfl rfl ?_
    refine L_sc (pc' := 570) rfl (ix_ok hX 1 (by omega)) rfl ?_
    refine L_s (pc' := 571) rfl rfl ?_
    refine L_s (pc' := 572) rfl rfl ?_
    refine L_ic (pc' := 573) rfl q1_2 rfl ?_
    refine L_s (pc' := 574) rfl rfl ?_
    refine L_sc (pc' := 575) rfl (ix_ok hX 2 (by omega)) rfl ?_
    refine L_bt (c := X.2.1 (t + 2) = 0) (t := 582) (n := 578) rfl rfl h0 ?_
    refine L_ic (pc' := 583) rfl q1_0 rfl ?_
    refine L_call (pc' := 586) rfl rfl (e_x_all (d := 50) (by decide) F1 _ _ _ _ h1) rfl ?_
    refine L_s (pc' := 587) rfl rfl ?_
    refine L_s (pc' := 588) rfl rfl ?_
    refine L_s (pc' := 589) rfl rfl ?_
    refine L_ic (pc' := 590) rfl q1_1 rfl ?_
    refine L_s (pc' := 591) rfl rfl ?_
    refine L_sc (pc' := 592) rfl (ix_ok hX 1 (by omega)) rfl ?_
    refine L_s (pc' := 593) rfl rfl ?_
    refine L_s (pc' := 594) rfl rfl ?_
    refine L_ic (pc' := 595) rfl q1_2 rfl ?_
    refine L_s (pc' := 596) rfl rfl ?_
    refine L_sc (pc' := 597) rfl (ix_ok hX 2 (by omega)) rfl ?_
    refine L_bt (c := X.2.1 (t + 2) = 0) (t := 604) (n := 600) rfl rfl h0 ?_
    refine L_ic (pc' := 605) rfl q1_0 rfl ?_
    refine L_call (pc' := 608) rfl rfl (e_m_all (d := 50) (by decide) _ _ _ _ h2) rfl ?_
    refine L_bt (c := a = a) (t := 1392) (n := 611) rfl rfl rfl ?_
    exact h9
  · obtain ⟨F1, F2, a, g1, g2, h1, h2, hR2, e1, e2⟩ := hS (X.2.1 (t + 1)) 1 g hR (by decide)
    subst e1
    subst e2
    obtain ⟨g9, h9⟩ := hn _ hR2
    refine ⟨g9, ?_⟩
    refine L_s (pc' := 565) rfl rfl ?_
    refine L_s (pc' := 566) rfl rfl ?_
    refine L_s (pc' := 567) rfl rfl ?_
    refine L_ic (pc' := 568) rfl q1_1 rfl ?_
    refine L_s (pc' := 569) rfl rfl ?_
    refine L_sc (pc' := 570) rfl (ix_ok hX 1 (by omega)) rfl ?_
    refine L_s (pc' := 571) rfl rfl ?_
    refine L_s (pc' := 572) rfl rfl ?_
    refine L_ic (pc' := 573) rfl q1_2 rfl ?_
    refine L_s (pc' := 574) rfl rfl ?_
    refine L_sc (pc' := 575) rfl (ix_ok hX 2 (by omega)) rfl ?_
    refine L_bf (c := X.2.1 (t + 2) = 0) (t := 582) (n := 578) rfl rfl h0 ?_
    refine L_ic (pc' := 579) rfl q1_1 rfl ?_
    refine L_s (pc' := 583) rfl rfl ?_
    refine L_call (pc' := 586) rfl rfl (e_x_all (d := 50) (by decide) F1 _ _ _ _ h1) rfl ?_
    refine L_s (pc' := 587) rfl rfl ?_
    refine L_s (pc' := 588) rfl rfl ?_
    refine L_s (pc' := 589) rfl rfl ?_
    refine L_ic (pc' := 590) rfl q1_1 rfl ?_
    refine L_s (pc' := 591) rfl rfl ?_
    refine L_sc (pc' := 592) rfl (ix_ok hX 1 (by omega)) rfl ?_
    refine L_s (pc' := 593) rfl rfl ?_
    refine L_s (pc' := 594) rfl rfl ?_
    refine L_ic (pc' := 595) rfl q1_2 rfl ?_
    refine L_s (pc' := 596) rfl rfl ?_
    refine L_sc (pc' := 597) rfl (ix_ok hX 2 (by omega)) rfl ?_
    refine L_bf (c := X.2.1 (t + 2) = 0) (t := 604) (n := 600) rfl rfl h0 ?_
    refine L_ic (pc' := 601) rfl q1_1 rfl ?_
    refine L_s (pc' := 605) rfl rfl ?_
    refine L_call (pc' := 608) rfl rfl (e_m_all (d := 50) (by decide) _ _ _ _ h2) rfl ?_
    refine L_bt (c := a = a) (t := 1392) (n := 611) rfl rfl rfl ?_
    exact h9
def Sim_field (RR : Sg → Prop) : Prop := ∀ (v1 : Int32) (v2 : Int32) (g : Sg), RR g → ∃ (F1 F2 : Nat) (a : Int32) (g1 g2 : Sg), x_field v1 v2 g = some (a, g1) ∧ m_field v1 v2 g1 = some (a, g2) ∧ RR g2
set_option maxRecDepth 40000 in
theorem lw_field {RR : Sg → Prop} (hS : Sim_field RR) {X : Xx} {t : Nat} {g : Sg} (hX : X.1 ≤ 3584) (ht : t + 7 ≤ X.1) (hR : RR g) (hn : ∀ g2, RR g2 → Nd X 1392 t g2) : Nd X 613 t g := by
  obtain ⟨F1, F2, a, g1, g2, h1, h2, hR2⟩ := hS (X.2.1 (t + 1)) (X.2.1 (t + 2)) g hR
  obtain ⟨g9, h9⟩ := hn _ hR2
  refine ⟨g9, ?_⟩
  refine L_s (pc' := 614) rfl rfl ?_
  refine L_s (pc' := 615) rfl rfl ?_
  refine L_s (pc' := 616) rfl rfl ?_
  refine L_ic (pc' := 617) rfl q1_1 rfl ?_
  refine L_s (pc' := 618) rfl rfl ?_
  refine L_sc (pc' := 619) rfl (ix_ok hX 1 (by omega)) rfl ?_
  refine L_s (pc' := 620) rfl rfl ?_
  refine L_s (pc' := 621) rfl rfl ?_
  refine L_ic (pc' := 622) rfl q1_2 rfl ?_
  refine L_s (pc' := 623) rfl rfl ?_
  refine L_sc (pc' := 624) rfl (ix_ok hX 2 (by omega)) rfl ?_
  refine L_call (pc' := 627) rfl rfl (e_x_field (d := 50) (by decide) _ _ _ _ h1) rfl ?_
  refine L_s (pc' := 628) rfl rfl ?_
  refine L_s (pc' := 629) rfl rfl ?_
  refine L_s (pc' := 630) rfl rfl ?_
  refine L_ic (pc' := 631) rfl q1_1 rfl ?_
  refine L_s (pc' := 632) rfl rfl ?_
  refine L_sc (pc' := 633) rfl (ix_ok hX 1 (by omega)) rfl ?_
  refine L_s (pc' := 634) rfl rfl ?_
  refine L_s (pc' := 635) rfl rfl ?_
  refine L_ic (pc' := 636) rfl q1_2 rfl ?_
  refine L_s (pc' := 637) rfl rfl ?_
  refine L_sc (pc' := 638) rfl (ix_ok hX 2 (by omega)) rfl ?_
  refine L_call (pc' := 641) rfl rfl (e_m_field (d := 50) (by decide) _ _ _ _ h2) rfl ?_
  refine L_bt (c := a = a) (t := 1392) (n := 644) rfl rfl rfl ?_
  exact h9
def Sim_deed (RR : Sg → Prop) : Prop := ∀ (v1 : Int32) (v2 : Int32) (v3 : Int32) (v4 : Int32) (g : Sg), RR g → ∃ (F1 F2 : Nat) (a : Int32) (g1 g2 : Sg), x_deed v1 v2 v3 v4 g = some (a, g1) ∧ m_deed v1 v2 v3 v4 g1 = some (a, g2) ∧ RR g2
set_option maxRecDepth 40000 in
theorem lw_deed {RR : Sg → Prop} (hS : Sim_deed RR) {X : Xx} {t : Nat} {g : Sg} (hX : X.1 ≤ 3584) (ht : t + 7 ≤ X.1) (hR : RR g) (hn : ∀ g2, RR g2 → Nd X 1392 t g2) : Nd X 646 t g := by
  obtain ⟨F1, F2, a, g1, g2, h1, h2, hR2⟩ := hS (X.2.1 (t + 1)) (X.2.1 (t + 2)) (X.2.1 (t + 3)) (X.2.1 (t + 4)) g hR
  obtain ⟨g9, h9⟩ := hn _ hR2
  refine ⟨g9, ?_⟩
  refine L_s (pc' := 647) rfl rfl ?_
  refine L_s (pc' := 648) rfl rfl ?_
  refine L_s (pc' := 649) rfl rfl ?_
  refine L_ic (pc' := 650) rfl q1_1 rfl ?_
  refine L_s (pc' := 651) rfl rfl ?_
  refine L_sc (pc' := 652) rfl (ix_ok hX 1 (by omega)) rfl ?_
  refine L_s (pc' := 653) rfl rfl ?_
  refine L_s (pc' := 654) rfl rfl ?_
  refine L_ic (pc' := 655) rfl q1_2 rfl ?_
  refine L_s (pc' := 656) rfl rfl ?_
  refine L_sc (pc' := 657) rfl (ix_ok hX 2 (by omega)) rfl ?_
  refine L_s (pc' := 658) rfl rfl ?_
  refine L_s (pc' := 659) rfl rfl ?_
  refine L_ic (pc' := 660) rfl q1_3 rfl ?_
  refine L_s (pc' := 661) rfl rfl ?_
  refine L_sc (pc' := 662) rfl (ix_ok hX 3 (by omega)) rfl ?_
  refine L_s (pc' := 663) rfl rfl ?_
  refine L_s (pc' := 664) rfl rfl ?_
  refine L_ic (pc' := 665) rfl q1_4 rfl ?_
  refine L_s (pc' := 666) rfl rfl ?_
  refine L_sc (pc' := 667) rfl (ix_ok hX 4 (by omega)) rfl ?_
  refine L_call (pc' := 670) rfl rfl (e_x_deed (d := 50) (by decide) _ _ _ _ _ _ h1) rfl ?_
  refine L_s (pc' := 671) rfl rfl ?_
  refine L_s (pc' := 672) rfl rfl ?_
  refine L_s (pc' := 673) rfl rfl ?_
  refine L_ic (pc' := 674) rfl q1_1 rfl ?_
  refine L_s (pc' := 675) rfl rfl ?_
  refine L_sc (pc' := 676) rfl (ix_ok hX 1 (by omega)) rfl ?_
  refine L_s (pc' := 677) rfl rfl ?_
  refine L_s (pc' := 678) rfl rfl ?_
  refine L_ic (pc' := 679) rfl q1_2 rfl ?_
  refine L_s (pc' := 680) rfl rfl ?_
  refine L_sc (pc' := 681) rfl (ix_ok hX 2 (by omega)) rfl ?_
  refine L_s (pc' := 682) rfl rfl ?_
  refine L_s (pc' := 683) rfl rfl ?_
  refine L_ic (pc' := 684) rfl q1_3 rfl ?_
  refine L_s (pc' := 685) rfl rfl ?_
  refine L_sc (pc' := 686) rfl (ix_ok hX 3 (by omega)) rfl ?_
  refine L_s (pc' := 687) rfl rfl ?_
  refine L_s (pc' := 688) rfl rfl ?_
  refine L_ic (pc' := 689) rfl q1_4 rfl ?_
  refine L_s (pc' := 690) rfl rfl ?_
  refine L_sc (pc' := 691) rfl (ix_ok hX 4 (by omega)) rfl ?_
  refine L_call (pc' := 694) rfl rfl (e_m_deed (d := 50) (by decide) _ _ _ _ _ _ h2) rfl ?_
  refine L_bt (c := a = a) (t := 1392) (n := 697) rfl rfl rfl ?_
  exact h9
def Sim_annul (RR : Sg → Prop) : Prop := ∀ (v1 : Int32) (g : Sg), RR g → ∃ (F1 F2 : Nat) (a : Int32) (g1 g2 : Sg), x_annul v1 g = some (a, g1) ∧ m_annul v1 g1 = some (a, g2) ∧ RR g2
set_option maxRecDepth 40000 in
theorem lw_annul {RR : Sg → Prop} (hS : Sim_annul RR) {X : Xx} {t : Nat} {g : Sg} (hX : X.1 ≤ 3584) (ht : t + 7 ≤ X.1) (hR : RR g) (hn : ∀ g2, RR g2 → Nd X 1392 t g2) : Nd X 699 t g := by
  obtain ⟨F1, F2, a, g1, g2, h1, h2, hR2⟩ := hS (X.2.1 (t + 1)) g hR
  obtain ⟨g9, h9⟩ := hn _ hR2
  refine ⟨g9, ?_⟩
  refine L_s (pc' := 700) rfl rfl ?_
  refine L_s (pc' := 701) rfl rfl ?_
  refine L_s (pc' := 702) rfl rfl ?_
  refine L_ic (pc' := 703) rfl q1_1 rfl ?_
  refine L_s (pc' := 704) rfl rfl ?_
  refine L_sc (pc' := 705) rfl (ix_ok hX 1 (by omega)) rfl ?_
  refine L_call (pc' := 708) rfl rfl (e_x_annul (d := 50) (by decide) _ _ _ h1) rfl ?_
  refine L_s (pc' := 709) rfl rfl ?_
  refine L_s (pc' := 710) rfl rfl ?_
  refine L_s (pc' := 711) rfl rfl ?_
  refine L_ic (pc' := 712) rfl q1_1 rfl ?_
  refine L_s (pc' := 713) rfl rfl ?_
  refine L_sc (pc' := 714) rfl (ix_ok hX 1 (by omega)) rfl ?_
  refine L_call (pc' := 717) rfl rfl (e_m_annul (d := 50) (by decide) _ _ _ h2) rfl ?_
  refine L_bt (c := a = a) (t := 1392) (n := 720) rfl rfl rfl ?_
  exact h9
def Sim_written (RR : Sg → Prop) : Prop := ∀ (v1 : Int32) (v2 : Int32) (g : Sg), RR g → ∃ (F1 F2 : Nat) (a : Int32) (g1 g2 : Sg), x_written v1 v2 g = some a ∧ m_written v1 v2 g = some a ∧ RR g2 ∧ g1 = g ∧ g2 = g
set_option maxRecDepth 40000 in
theorem lw_written {RR : Sg → Prop} (hS : Sim_written RR) {X : Xx} {t : Nat} {g : Sg} (hX : X.1 ≤ 3584) (ht : t + 7 ≤ X.1) (hR : RR g) (hn : ∀ g2, RR g2 → Nd X 1392 t g2) : Nd X 722 t g := by
  obtain ⟨F1, F2, a, g1, g2, h1, h2, hR2, e1, e2⟩ := hS (X.2.1 (t + 1)) (X.2.1 (t + 2)) g hR
  subst e1
  subst e2
  obtain ⟨g9, h9⟩ := hn _ hR2
  refine ⟨g9, ?_⟩
  refine L_s (pc' := 723) rfl rfl ?_
  refine L_s (pc' := 724) rfl rfl ?_
  refine L_s (pc' := 725) rfl rfl ?_
  refine L_ic (pc' := 726) rfl q1_1 rfl ?_
  refine L_s (pc' := 727) rfl rfl ?_
  refine L_sc (pc' := 728) rfl (ix_ok hX 1 (by omega)) rfl ?_
  refine L_s (pc' := 729) rfl rfl ?_
  refine L_s (pc' := 730) rfl rfl ?_
  refine L_ic (pc' := 731) rfl q1_2 rfl ?_
  refine L_s (pc' := 732) rfl rfl ?_
  refine L_sc (pc' := 733) rfl (ix_ok hX 2 (by omega)) rfl ?_
  refine L_call (pc' := 736) rfl rfl (e_x_written (d := 50) (by decide) _ _ _ _ h1) rfl ?_
  refine L_s (pc' := 737) rfl rfl ?_
  refine L_s (pc' := 738) rfl rfl ?_
  refine L_s (pc' := 739) rfl rfl ?_
  refine L_ic (pc' := 740) rfl q1_1 rfl ?_
  refine L_s (pc' := 741) rfl rfl ?_
  refine L_sc (pc' := 742) rfl (ix_ok hX 1 (by omega)) rfl ?_
  refine L_s (pc' := 743) rfl rfl ?_
  refine L_s (pc' := 744) rfl rfl ?_
  refine L_ic (pc' := 745) rfl q1_2 rfl ?_
  refine L_s (pc' := 746) rfl rfl ?_
  refine L_sc (pc' := 747) rfl (ix_ok hX 2 (by omega)) rfl ?_
  refine L_call (pc' := 750) rfl rfl (e_m_written (d := 50) (by decide) _ _ _ _ h2) rfl ?_
  refine L_bt (c := a = a) (t := 1392) (n := 753) rfl rfl rfl ?_
  exact h9
def Sim_owner (RR : Sg → Prop) : Prop := ∀ (v1 : Int32) (v2 : Int32) (v3 : Int32) (g : Sg), RR g → ∃ (F1 F2 : Nat) (a : Int32) (g1 g2 : Sg), x_owner F1 v1 v2 v3 g = some a ∧ m_owner F2 v1 v2 v3 g = some a ∧ RR g2 ∧ g1 = g ∧ g2 = g
set_option maxRecDepth 40000 in
theorem lw_owner {RR : Sg → Prop} (hS : Sim_owner RR) {X : Xx} {t : Nat} {g : Sg} (hX : X.1 ≤ 3584) (ht : t + 7 ≤ X.1) (hR : RR g) (hn : ∀ g2, RR g2 → Nd X 1392 t g2) : Nd X 755 t g := by
  obtain ⟨F1, F2, a, g1, g2, h1, h2, hR2, e1, e2⟩ := hS (X.2.1 (t + 1)) (X.2.1 (t + 2)) (X.2.1 (t + 3)) g hR
  subst e1
  subst e2
  obtain ⟨g9, h9⟩ := hn _ hR2
  refine ⟨g9, ?_⟩
  refine L_s (pc' := 756) rfl rfl ?_
  refine L_s (pc' := 757) rfl rfl ?_
  refine L_s (pc' := 758) rfl rfl ?_
  refine L_ic (pc' := 759) rfl q1_1 rfl ?_
  refine L_s (pc' := 760) rfl rfl ?_
  refine L_sc (pc' := 761) rfl (ix_ok hX 1 (by omega)) rfl ?_
  refine L_s (pc' := 762) rfl rfl ?_
  refine L_s (pc' := 763) rfl rfl ?_
  refine L_ic (pc' := 764) rfl q1_2 rfl ?_
  refine L_s (pc' := 765) rfl rfl ?_
  refine L_sc (pc' := 766) rfl (ix_ok hX 2 (by omega)) rfl ?_
  refine L_s (pc' := 767) rfl rfl ?_
  refine L_s (pc' := 768) rfl rfl ?_
  refine L_ic (pc' := 769) rfl q1_3 rfl ?_
  refine L_s (pc' := 770) rfl rfl ?_
  refine L_sc (pc' := 771) rfl (ix_ok hX 3 (by omega)) rfl ?_
  refine L_call (pc' := 774) rfl rfl (e_x_owner (d := 50) (by decide) F1 _ _ _ _ _ h1) rfl ?_
  refine L_s (pc' := 775) rfl rfl ?_
  refine L_s (pc' := 776) rfl rfl ?_
  refine L_s (pc' := 777) rfl rfl ?_
  refine L_ic (pc' := 778) rfl q1_1 rfl ?_
  refine L_s (pc' := 779) rfl rfl ?_
  refine L_sc (pc' := 780) rfl (ix_ok hX 1 (by omega)) rfl ?_
  refine L_s (pc' := 781) rfl rfl ?_
  refine L_s (pc' := 782) rfl rfl ?_
  refine L_ic (pc' := 783) rfl q1_2 rfl ?_
  refine L_s (pc' := 784) rfl rfl ?_
  refine L_sc (pc' := 785) rfl (ix_ok hX 2 (by omega)) rfl ?_
  refine L_s (pc' := 786) rfl rfl ?_
  refine L_s (pc' := 787) rfl rfl ?_
  refine L_ic (pc' := 788) rfl q1_3 rfl ?_
  refine L_s (pc' := 789) rfl rfl ?_
  refine L_sc (pc' := 790) rfl (ix_ok hX 3 (by omega)) rfl ?_
  refine L_call (pc' := 793) rfl rfl (e_m_owner (d := 50) (by decide) F2 _ _ _ _ _ h2) rfl ?_
  refine L_bt (c := a = a) (t := 1392) (n := 796) rfl rfl rfl ?_
  exact h9
def Sim_ran (RR : Sg → Prop) : Prop := ∀ (v1 : Int32) (g : Sg), RR g → ∃ (F1 F2 : Nat) (a : Int32) (g1 g2 : Sg), x_ran v1 g = some a ∧ m_ran v1 g = some a ∧ RR g2 ∧ g1 = g ∧ g2 = g
set_option maxRecDepth 40000 in
theorem lw_ran {RR : Sg → Prop} (hS : Sim_ran RR) {X : Xx} {t : Nat} {g : Sg} (hX : X.1 ≤ 3584) (ht : t + 7 ≤ X.1) (hR : RR g) (hn : ∀ g2, RR g2 → Nd X 1392 t g2) : Nd X 798 t g := by
  obtain ⟨F1, F2, a, g1, g2, h1, h2, hR2, e1, e2⟩ := hS (X.2.1 (t + 1)) g hR
  subst e1
  subst e2
  obtain ⟨g9, h9⟩ := hn _ hR2
  refine ⟨g9, ?_⟩
  refine L_s (pc' := 799) rfl rfl ?_
  refine L_s (pc' := 800) rfl rfl ?_
  refine L_s (pc' := 801) rfl rfl ?_
  refine L_ic (pc' := 802) rfl q1_1 rfl ?_
  refine L_s (pc' := 803) rfl rfl ?_
  refine L_sc (pc' := 804) rfl (ix_ok hX 1 (by omega)) rfl ?_
  refine L_call (pc' := 807) rfl rfl (e_x_ran (d := 50) (by decide) _ _ _ h1) rfl ?_
  refine L_s (pc' := 808) rfl rfl ?_
  refine L_s (pc' := 809) rfl rfl ?_
  refine L_s (pc' := 810) rfl rfl ?_
  refine L_ic (pc' := 811) rfl q1_1 rfl ?_
  refine L_s (pc' := 812) rfl rfl ?_
  refine L_sc (pc' := 813) rfl (ix_ok hX 1 (by omega)) rfl ?_
  refine L_call (pc' := 816) rfl rfl (e_m_ran (d := 50) (by decide) _ _ _ h2) rfl ?_
  refine L_bt (c := a = a) (t := 1392) (n := 819) rfl rfl rfl ?_
  exact h9
def Sim_owed (RR : Sg → Prop) : Prop := ∀ (v1 : Int32) (g : Sg), RR g → ∃ (F1 F2 : Nat) (a : Int32) (g1 g2 : Sg), x_owed F1 v1 g = some (a, g1) ∧ m_owed F2 v1 g1 = some a ∧ RR g2 ∧ g2 = g1
set_option maxRecDepth 40000 in
theorem lw_owed {RR : Sg → Prop} (hS : Sim_owed RR) {X : Xx} {t : Nat} {g : Sg} (hX : X.1 ≤ 3584) (ht : t + 7 ≤ X.1) (hR : RR g) (hn : ∀ g2, RR g2 → Nd X 1392 t g2) : Nd X 821 t g := by
  obtain ⟨F1, F2, a, g1, g2, h1, h2, hR2, e2⟩ := hS (X.2.1 (t + 1)) g hR
  subst e2
  obtain ⟨g9, h9⟩ := hn _ hR2
  refine ⟨g9, ?_⟩
  refine L_s (pc' := 822) rfl rfl ?_
  refine L_s (pc' := 823) rfl rfl ?_
  refine L_s (pc' := 824) rfl rfl ?_
  refine L_ic (pc' := 825) rfl q1_1 rfl ?_
  refine L_s (pc' := 826) rfl rfl ?_
  refine L_sc (pc' := 827) rfl (ix_ok hX 1 (by omega)) rfl ?_
  refine L_call (pc' := 830) rfl rfl (e_x_owed (d := 50) (by decide) F1 _ _ _ h1) rfl ?_
  refine L_s (pc' := 831) rfl rfl ?_
  refine L_s (pc' := 832) rfl rfl ?_
  refine L_s (pc' := 833) rfl rfl ?_
  refine L_ic (pc' := 834) rfl q1_1 rfl ?_
  refine L_s (pc' := 835) rfl rfl ?_
  refine L_sc (pc' := 836) rfl (ix_ok hX 1 (by omega)) rfl ?_
  refine L_call (pc' := 839) rfl rfl (e_m_owed (d := 50) (by decide) F2 _ _ _ h2) rfl ?_
  refine L_bt (c := a = a) (t := 1392) (n := 842) rfl rfl rfl ?_
  exact h9
def Sim_feed (RR : Sg → Prop) : Prop := ∀ (v1 : Int32) (v2 : Int32) (v3 : Int32) (v4 : Int32) (v5 : Int32) (g : Sg), RR g → ∃ (F1 F2 : Nat) (a : Int32) (g1 g2 : Sg), x_feed v1 v2 v3 v4 v5 g = some (a, g1) ∧ m_feed v1 v2 v3 v4 v5 g1 = some (a, g2) ∧ RR g2
set_option maxRecDepth 40000 in
theorem lw_feed {RR : Sg → Prop} (hS : Sim_feed RR) {X : Xx} {t : Nat} {g : Sg} (hX : X.1 ≤ 3584) (ht : t + 7 ≤ X.1) (hR : RR g) (hn : ∀ g2, RR g2 → Nd X 1392 t g2) : Nd X 844 t g := by
  obtain ⟨F1, F2, a, g1, g2, h1, h2, hR2⟩ := hS (X.2.1 (t + 1)) (X.2.1 (t + 2)) (X.2.1 (t + 3)) (X.2.1 (t + 4)) (X.2.1 (t + 5)) g hR
  obtain ⟨g9, h9⟩ := hn _ hR2
  refine ⟨g9, ?_⟩
  refine L_s (pc' := 845) rfl rfl ?_
  refine L_s (pc' := 846) rfl rfl ?_
  refine L_s (pc' := 847) rfl rfl ?_
  refine L_ic (pc' := 848) rfl q1_1 rfl ?_
  refine L_s (pc' := 849) rfl rfl ?_
  refine L_sc (pc' := 850) rfl (ix_ok hX 1 (by omega)) rfl ?_
  refine L_s (pc' := 851) rfl rfl ?_
  refine L_s (pc' := 852) rfl rfl ?_
  refine L_ic (pc' := 853) rfl q1_2 rfl ?_
  refine L_s (pc' := 854) rfl rfl ?_
  refine L_sc (pc' := 855) rfl (ix_ok hX 2 (by omega)) rfl ?_
  refine L_s (pc' := 856) rfl rfl ?_
  refine L_s (pc' := 857) rfl rfl ?_
  refine L_ic (pc' := 858) rfl q1_3 rfl ?_
  refine L_s (pc' := 859) rfl rfl ?_
  refine L_sc (pc' := 860) rfl (ix_ok hX 3 (by omega)) rfl ?_
  refine L_s (pc' := 861) rfl rfl ?_
  refine L_s (pc' := 862) rfl rfl ?_
  refine L_ic (pc' := 863) rfl q1_4 rfl ?_
  refine L_s (pc' := 864) rfl rfl ?_
  refine L_sc (pc' := 865) rfl (ix_ok hX 4 (by omega)) rfl ?_
  refine L_s (pc' := 866) rfl rfl ?_
  refine L_s (pc' := 867) rfl rfl ?_
  refine L_ic (pc' := 868) rfl q1_5 rfl ?_
  refine L_s (pc' := 869) rfl rfl ?_
  refine L_sc (pc' := 870) rfl (ix_ok hX 5 (by omega)) rfl ?_
  refine L_call (pc' := 873) rfl rfl (e_x_feed (d := 50) (by decide) _ _ _ _ _ _ _ h1) rfl ?_
  refine L_s (pc' := 874) rfl rfl ?_
  refine L_s (pc' := 875) rfl rfl ?_
  refine L_s (pc' := 876) rfl rfl ?_
  refine L_ic (pc' := 877) rfl q1_1 rfl ?_
  refine L_s (pc' := 878) rfl rfl ?_
  refine L_sc (pc' := 879) rfl (ix_ok hX 1 (by omega)) rfl ?_
  refine L_s (pc' := 880) rfl rfl ?_
  refine L_s (pc' := 881) rfl rfl ?_
  refine L_ic (pc' := 882) rfl q1_2 rfl ?_
  refine L_s (pc' := 883) rfl rfl ?_
  refine L_sc (pc' := 884) rfl (ix_ok hX 2 (by omega)) rfl ?_
  refine L_s (pc' := 885) rfl rfl ?_
  refine L_s (pc' := 886) rfl rfl ?_
  refine L_ic (pc' := 887) rfl q1_3 rfl ?_
  refine L_s (pc' := 888) rfl rfl ?_
  refine L_sc (pc' := 889) rfl (ix_ok hX 3 (by omega)) rfl ?_
  refine L_s (pc' := 890) rfl rfl ?_
  refine L_s (pc' := 891) rfl rfl ?_
  refine L_ic (pc' := 892) rfl q1_4 rfl ?_
  refine L_s (pc' := 893) rfl rfl ?_
  refine L_sc (pc' := 894) rfl (ix_ok hX 4 (by omega)) rfl ?_
  refine L_s (pc' := 895) rfl rfl ?_
  refine L_s (pc' := 896) rfl rfl ?_
  refine L_ic (pc' := 897) rfl q1_5 rfl ?_
  refine L_s (pc' := 898) rfl rfl ?_
  refine L_sc (pc' := 899) rfl (ix_ok hX 5 (by omega)) rfl ?_
  refine L_call (pc' := 902) rfl rfl (e_m_feed (d := 50) (by decide) _ _ _ _ _ _ _ h2) rfl ?_
  refine L_bt (c := a = a) (t := 1392) (n := 905) rfl rfl rfl ?_
  exact h9
def Sim_end (RR : Sg → Prop) : Prop := ∀ (v1 : Int32) (g : Sg), RR g → ∃ (F1 F2 : Nat) (a : Int32) (g1 g2 : Sg), x_end v1 g = some (a, g1) ∧ m_end v1 g1 = some (a, g2) ∧ RR g2
set_option maxRecDepth 40000 in
theorem lw_end {RR : Sg → Prop} (hS : Sim_end RR) {X : Xx} {t : Nat} {g : Sg} (hX : X.1 ≤ 3584) (ht : t + 7 ≤ X.1) (hR : RR g) (hn : ∀ g2, RR g2 → Nd X 1392 t g2) : Nd X 907 t g := by
  obtain ⟨F1, F2, a, g1, g2, h1, h2, hR2⟩ := hS (X.2.1 (t + 1)) g hR
  obtain ⟨g9, h9⟩ := hn _ hR2
  refine ⟨g9, ?_⟩
  refine L_s (pc' := 908) rfl rfl ?_
  refine L_s (pc' := 909) rfl rfl ?_
  refine L_s (pc' := 910) rfl rfl ?_
  refine L_ic (pc' := 911) rfl q1_1 rfl ?_
  refine L_s (pc' := 912) rfl rfl ?_
  refine L_sc (pc' := 913) rfl (ix_ok hX 1 (by omega)) rfl ?_
  refine L_call (pc' := 916) rfl rfl (e_x_end (d := 50) (by decide) _ _ _ h1) rfl ?_
  refine L_s (pc' := 917) rfl rfl ?_
  refine L_s (pc' := 918) rfl rfl ?_
  refine L_s (pc' := 919) rfl rfl ?_
  refine L_ic (pc' := 920) rfl q1_1 rfl ?_
  refine L_s (pc' := 921) rfl rfl ?_
  refine L_sc (pc' := 922) rfl (ix_ok hX 1 (by omega)) rfl ?_
  refine L_call (pc' := 925) rfl rfl (e_m_end (d := 50) (by decide) _ _ _ h2) rfl ?_
  refine L_bt (c := a = a) (t := 1392) (n := 928) rfl rfl rfl ?_
  exact h9
def Sim_statute (RR : Sg → Prop) : Prop := ∀ (g : Sg), RR g → ∃ (F1 F2 : Nat) (a : Int32) (g1 g2 : Sg), x_statute F1 g = some (a, g1) ∧ m_statute F2 g1 = some (a, g2) ∧ RR g2
set_option maxRecDepth 40000 in
theorem lw_statute {RR : Sg → Prop} (hS : Sim_statute RR) {X : Xx} {t : Nat} {g : Sg} (hX : X.1 ≤ 3584) (ht : t + 7 ≤ X.1) (hR : RR g) (hn : ∀ g2, RR g2 → Nd X 1392 t g2) : Nd X 930 t g := by
  obtain ⟨F1, F2, a, g1, g2, h1, h2, hR2⟩ := hS  g hR
  obtain ⟨g9, h9⟩ := hn _ hR2
  refine ⟨g9, ?_⟩
  refine L_s (pc' := 931) rfl rfl ?_
  refine L_call (pc' := 934) rfl rfl (e_x_statute (d := 50) (by decide) F1 _ _ h1) rfl ?_
  refine L_s (pc' := 935) rfl rfl ?_
  refine L_call (pc' := 938) rfl rfl (e_m_statute (d := 50) (by decide) F2 _ _ h2) rfl ?_
  refine L_bt (c := a = a) (t := 1392) (n := 941) rfl rfl rfl ?_
  exact h9
def Sim_fault (RR : Sg → Prop) : Prop := ∀ (v1 : Int32) (g : Sg), RR g → ∃ (F1 F2 : Nat) (a : Int32) (g1 g2 : Sg), x_fault v1 g = some a ∧ m_fault v1 g = some a ∧ RR g2 ∧ g1 = g ∧ g2 = g
set_option maxRecDepth 40000 in
theorem lw_fault {RR : Sg → Prop} (hS : Sim_fault RR) {X : Xx} {t : Nat} {g : Sg} (hX : X.1 ≤ 3584) (ht : t + 7 ≤ X.1) (hR : RR g) (hn : ∀ g2, RR g2 → Nd X 1392 t g2) : Nd X 943 t g := by
  obtain ⟨F1, F2, a, g1, g2, h1, h2, hR2, e1, e2⟩ := hS (X.2.1 (t + 1)) g hR
  subst e1
  subst e2
  obtain ⟨g9, h9⟩ := hn _ hR2
  refine ⟨g9, ?_⟩
  refine L_s (pc' := 944) rfl rfl ?_
  refine L_s (pc' := 945) rfl rfl ?_
  refine L_s (pc' := 946) rfl rfl ?_
  refine L_ic (pc' := 947) rfl q1_1 rfl ?_
  refine L_s (pc' := 948) rfl rfl ?_
  refine L_sc (pc' := 949) rfl (ix_ok hX 1 (by omega)) rfl ?_
  refine L_call (pc' := 952) rfl rfl (e_x_fault (d := 50) (by decide) _ _ _ h1) rfl ?_
  refine L_s (pc' := 953) rfl rfl ?_
  refine L_s (pc' := 954) rfl rfl ?_
  refine L_s (pc' := 955) rfl rfl ?_
  refine L_ic (pc' := 956) rfl q1_1 rfl ?_
  refine L_s (pc' := 957) rfl rfl ?_
  refine L_sc (pc' := 958) rfl (ix_ok hX 1 (by omega)) rfl ?_
  refine L_call (pc' := 961) rfl rfl (e_m_fault (d := 50) (by decide) _ _ _ h2) rfl ?_
  refine L_bt (c := a = a) (t := 1392) (n := 964) rfl rfl rfl ?_
  exact h9
def Sim_dry (RR : Sg → Prop) : Prop := ∀ (v1 : Int32) (v2 : Int32) (g : Sg), RR g → v2 = 0 ∨ v2 = 1 → ∃ (F1 F2 : Nat) (a : Int32) (g1 g2 : Sg), x_dry v1 v2 g = some (a, g1) ∧ m_dry v1 v2 g1 = some (a, g2) ∧ RR g2
set_option maxRecDepth 40000 in
theorem lw_dry {RR : Sg → Prop} (hS : Sim_dry RR) {X : Xx} {t : Nat} {g : Sg} (hX : X.1 ≤ 3584) (ht : t + 7 ≤ X.1) (hR : RR g) (hn : ∀ g2, RR g2 → Nd X 1392 t g2) : Nd X 966 t g := by
  by_cases h0 : X.2.1 (t + 2) = 0
  · obtain ⟨F1, F2, a, g1, g2, h1, h2, hR2⟩ := hS (X.2.1 (t + 1)) 0 g hR (by decide)
    obtain ⟨g9, h9⟩ := hn _ hR2
    refine ⟨g9, ?_⟩
    refine L_s (pc' := 967) rfl rfl ?_
    refine L_s (pc' := 968) rfl rfl ?_
    refine L_s (pc' := 969) rfl rfl ?_
    refine L_ic (pc' := 970) rfl q1_1 rfl ?_
    refine L_s (pc' := 971) rfl rfl ?_
    refine L_sc (pc' := 972) rfl (ix_ok hX 1 (by omega)) rfl ?_
    refine L_s (pc' := 973) rfl rfl ?_
    refine L_s (pc' := 974) rfl rfl ?_
    refine L_ic (pc' := 975) rfl q1_2 rfl ?_
    refine L_s (pc' := 976) rfl rfl ?_
    refine L_sc (pc' := 977) rfl (ix_ok hX 2 (by omega)) rfl ?_
    refine L_bt (c := X.2.1 (t + 2) = 0) (t := 984) (n := 980) rfl rfl h0 ?_
    refine L_ic (pc' := 985) rfl q1_0 rfl ?_
    refine L_call (pc' := 988) rfl rfl (e_x_dry (d := 50) (by decide) _ _ _ _ h1) rfl ?_
    refine L_s (pc' := 989) rfl rfl ?_
    refine L_s (pc' := 990) rfl rfl ?_
    refine L_s (pc' := 991) rfl rfl ?_
    refine L_ic (pc' := 992) rfl q1_1 rfl ?_
    refine L_s (pc' := 993) rfl rfl ?_
    refine L_sc (pc' := 994) rfl (ix_ok hX 1 (by omega)) rfl ?_
    refine L_s (pc' := 995) rfl rfl ?_
    refine L_s (pc' := 996) rfl rfl ?_
    refine L_ic (pc' := 997) rfl q1_2 rfl ?_
    refine L_s (pc' := 998) rfl rfl ?_
    refine L_sc (pc' := 999) rfl (ix_ok hX 2 (by omega)) rfl ?_
    refine L_bt (c := X.2.1 (t + 2) = 0) (t := 1006) (n := 1002) rfl rfl h0 ?_
    refine L_ic (pc' := 1007) rfl q1_0 rfl ?_
    refine L_call (pc' := 1010) rfl rfl (e_m_dry (d := 50) (by decide) _ _ _ _ h2) rfl ?_
    refine L_bt (c := a = a) (t := 1392) (n := 1013) rfl rfl rfl ?_
    exact h9
  · obtain ⟨F1, F2, a, g1, g2, h1, h2, hR2⟩ := hS (X.2.1 (t + 1)) 1 g hR (by decide)
    obtain ⟨g9, h9⟩ := hn _ hR2
    refine ⟨g9, ?_⟩
    refine L_s (pc' := 967) rfl rfl ?_
    refine L_s (pc' := 968) rfl rfl ?_
    refine L_s (pc' := 969) rfl rfl ?_
    refine L_ic (pc' := 970) rfl q1_1 rfl ?_
    refine L_s (pc' := 971) rfl rfl ?_
    refine L_sc (pc' := 972) rfl (ix_ok hX 1 (by omega)) rfl ?_
    refine L_s (pc' := 973) rfl rfl ?_
    refine L_s (pc' := 974) rfl rfl ?_
    refine L_ic (pc' := 975) rfl q1_2 rfl ?_
    refine L_s (pc' := 976) rfl rfl ?_
    refine L_sc (pc' := 977) rfl (ix_ok hX 2 (by omega)) rfl ?_
    refine L_bf (c := X.2.1 (t + 2) = 0) (t := 984) (n := 980) rfl rfl h0 ?_
    refine L_ic (pc' := 981) rfl q1_1 rfl ?_
    refine L_s (pc' := 985) rfl rfl ?_
    refine L_call (pc' := 988) rfl rfl (e_x_dry (d := 50) (by decide) _ _ _ _ h1) rfl ?_
    refine L_s (pc' := 989) rfl rfl ?_
    refine L_s (pc' := 990) rfl rfl ?_
    refine L_s (pc' := 991) rfl rfl ?_
    refine L_ic (pc' := 992) rfl q1_1 rfl ?_
    refine L_s (pc' := 993) rfl rfl ?_
    refine L_sc (pc' := 994) rfl (ix_ok hX 1 (by omega)) rfl ?_
    refine L_s (pc' := 995) rfl rfl ?_
    refine L_s (pc' := 996) rfl rfl ?_
    refine L_ic (pc' := 997) rfl q1_2 rfl ?_
    refine L_s (pc' := 998) rfl rfl ?_
    refine L_sc (pc' := 999) rfl (ix_ok hX 2 (by omega)) rfl ?_
    refine L_bf (c := X.2.1 (t + 2) = 0) (t := 1006) (n := 1002) rfl rfl h0 ?_
    refine L_ic (pc' := 1003) rfl q1_1 rfl ?_
    refine L_s (pc' := 1007) rfl rfl ?_
    refine L_call (pc' := 1010) rfl rfl (e_m_dry (d := 50) (by decide) _ _ _ _ h2) rfl ?_
    refine L_bt (c := a = a) (t := 1392) (n := 1013) rfl rfl rfl ?_
    exact h9
def Sim_holder (RR : Sg → Prop) : Prop := ∀ (v1 : Int32) (v2 : Int32) (v3 : Int32) (g : Sg), RR g → ∃ (F1 F2 : Nat) (a : Int32) (g1 g2 : Sg), x_holder F1 v1 v2 v3 g = some (a, g1) ∧ m_holder F2 v1 v2 v3 g1 = some (a, g2) ∧ RR g2
set_option maxRecDepth 40000 in
theorem lw_holder {RR : Sg → Prop} (hS : Sim_holder RR) {X : Xx} {t : Nat} {g : Sg} (hX : X.1 ≤ 3584) (ht : t + 7 ≤ X.1) (hR : RR g) (hn : ∀ g2, RR g2 → Nd X 1392 t g2) : Nd X 1015 t g := by
  obtain ⟨F1, F2, a, g1, g2, h1, h2, hR2⟩ := hS (X.2.1 (t + 1)) (X.2.1 (t + 2)) (X.2.1 (t + 3)) g hR
  obtain ⟨g9, h9⟩ := hn _ hR2
  refine ⟨g9, ?_⟩
  refine L_s (pc' := 1016) rfl rfl ?_
  refine L_s (pc' := 1017) rfl rfl ?_
  refine L_s (pc' := 1018) rfl rfl ?_
  refine L_ic (pc' := 1019) rfl q1_1 rfl ?_
  refine L_s (pc' := 1020) rfl rfl ?_
  refine L_sc (pc' := 1021) rfl (ix_ok hX 1 (by omega)) rfl ?_
  refine L_s (pc' := 1022) rfl rfl ?_
  refine L_s (pc' := 1023) rfl rfl ?_
  refine L_ic (pc' := 1024) rfl q1_2 rfl ?_
  refine L_s (pc' := 1025) rfl rfl ?_
  refine L_sc (pc' := 1026) rfl (ix_ok hX 2 (by omega)) rfl ?_
  refine L_s (pc' := 1027) rfl rfl ?_
  refine L_s (pc' := 1028) rfl rfl ?_
  refine L_ic (pc' := 1029) rfl q1_3 rfl ?_
  refine L_s (pc' := 1030) rfl rfl ?_
  refine L_sc (pc' := 1031) rfl (ix_ok hX 3 (by omega)) rfl ?_
  refine L_call (pc' := 1034) rfl rfl (e_x_holder (d := 50) (by decide) F1 _ _ _ _ _ h1) rfl ?_
  refine L_s (pc' := 1035) rfl rfl ?_
  refine L_s (pc' := 1036) rfl rfl ?_
  refine L_s (pc' := 1037) rfl rfl ?_
  refine L_ic (pc' := 1038) rfl q1_1 rfl ?_
  refine L_s (pc' := 1039) rfl rfl ?_
  refine L_sc (pc' := 1040) rfl (ix_ok hX 1 (by omega)) rfl ?_
  refine L_s (pc' := 1041) rfl rfl ?_
  refine L_s (pc' := 1042) rfl rfl ?_
  refine L_ic (pc' := 1043) rfl q1_2 rfl ?_
  refine L_s (pc' := 1044) rfl rfl ?_
  refine L_sc (pc' := 1045) rfl (ix_ok hX 2 (by omega)) rfl ?_
  refine L_s (pc' := 1046) rfl rfl ?_
  refine L_s (pc' := 1047) rfl rfl ?_
  refine L_ic (pc' := 1048) rfl q1_3 rfl ?_
  refine L_s (pc' := 1049) rfl rfl ?_
  refine L_sc (pc' := 1050) rfl (ix_ok hX 3 (by omega)) rfl ?_
  refine L_call (pc' := 1053) rfl rfl (e_m_holder (d := 50) (by decide) F2 _ _ _ _ _ h2) rfl ?_
  refine L_bt (c := a = a) (t := 1392) (n := 1056) rfl rfl rfl ?_
  exact h9
def Sim_duty (RR : Sg → Prop) : Prop := ∀ (v1 : Int32) (v2 : Int32) (v3 : Int32) (g : Sg), RR g → ∃ (F1 F2 : Nat) (a : Int32) (g1 g2 : Sg), x_duty F1 v1 v2 v3 g = some (a, g1) ∧ m_duty F2 v1 v2 v3 g1 = some (a, g2) ∧ RR g2
set_option maxRecDepth 40000 in
theorem lw_duty {RR : Sg → Prop} (hS : Sim_duty RR) {X : Xx} {t : Nat} {g : Sg} (hX : X.1 ≤ 3584) (ht : t + 7 ≤ X.1) (hR : RR g) (hn : ∀ g2, RR g2 → Nd X 1392 t g2) : Nd X 1058 t g := by
  obtain ⟨F1, F2, a, g1, g2, h1, h2, hR2⟩ := hS (X.2.1 (t + 1)) (X.2.1 (t + 2)) (X.2.1 (t + 3)) g hR
  obtain ⟨g9, h9⟩ := hn _ hR2
  refine ⟨g9, ?_⟩
  refine L_s (pc' := 1059) rfl rfl ?_
  refine L_s (pc' := 1060) rfl rfl ?_
  refine L_s (pc' := 1061) rfl rfl ?_
  refine L_ic (pc' := 1062) rfl q1_1 rfl ?_
  refine L_s (pc' := 1063) rfl rfl ?_
  refine L_sc (pc' := 1064) rfl (ix_ok hX 1 (by omega)) rfl ?_
  refine L_s (pc' := 1065) rfl rfl ?_
  refine L_s (pc' := 1066) rfl rfl ?_
  refine L_ic (pc' := 1067) rfl q1_2 rfl ?_
  refine L_s (pc' := 1068) rfl rfl ?_
  refine L_sc (pc' := 1069) rfl (ix_ok hX 2 (by omega)) rfl ?_
  refine L_s (pc' := 1070) rfl rfl ?_
  refine L_s (pc' := 1071) rfl rfl ?_
  refine L_ic (pc' := 1072) rfl q1_3 rfl ?_
  refine L_s (pc' := 1073) rfl rfl ?_
  refine L_sc (pc' := 1074) rfl (ix_ok hX 3 (by omega)) rfl ?_
  refine L_call (pc' := 1077) rfl rfl (e_x_duty (d := 50) (by decide) F1 _ _ _ _ _ h1) rfl ?_
  refine L_s (pc' := 1078) rfl rfl ?_
  refine L_s (pc' := 1079) rfl rfl ?_
  refine L_s (pc' := 1080) rfl rfl ?_
  refine L_ic (pc' := 1081) rfl q1_1 rfl ?_
  refine L_s (pc' := 1082) rfl rfl ?_
  refine L_sc (pc' := 1083) rfl (ix_ok hX 1 (by omega)) rfl ?_
  refine L_s (pc' := 1084) rfl rfl ?_
  refine L_s (pc' := 1085) rfl rfl ?_
  refine L_ic (pc' := 1086) rfl q1_2 rfl ?_
  refine L_s (pc' := 1087) rfl rfl ?_
  refine L_sc (pc' := 1088) rfl (ix_ok hX 2 (by omega)) rfl ?_
  refine L_s (pc' := 1089) rfl rfl ?_
  refine L_s (pc' := 1090) rfl rfl ?_
  refine L_ic (pc' := 1091) rfl q1_3 rfl ?_
  refine L_s (pc' := 1092) rfl rfl ?_
  refine L_sc (pc' := 1093) rfl (ix_ok hX 3 (by omega)) rfl ?_
  refine L_call (pc' := 1096) rfl rfl (e_m_duty (d := 50) (by decide) F2 _ _ _ _ _ h2) rfl ?_
  refine L_bt (c := a = a) (t := 1392) (n := 1099) rfl rfl rfl ?_
  exact h9
def Sim_lay (RR : Sg → Prop) : Prop := ∀ (v1 : Int32) (v2 : Int32) (v3 : Int32) (v4 : Int32) (v5 : Int32) (g : Sg), RR g → ∃ (F1 F2 : Nat) (a : Int32) (g1 g2 : Sg), x_lay F1 v1 v2 v3 v4 v5 g = some (a, g1) ∧ m_lay F2 v1 v2 v3 v4 v5 g1 = some (a, g2) ∧ RR g2
set_option maxRecDepth 40000 in
theorem lw_lay {RR : Sg → Prop} (hS : Sim_lay RR) {X : Xx} {t : Nat} {g : Sg} (hX : X.1 ≤ 3584) (ht : t + 7 ≤ X.1) (hR : RR g) (hn : ∀ g2, RR g2 → Nd X 1392 t g2) : Nd X 1101 t g := by
  obtain ⟨F1, F2, a, g1, g2, h1, h2, hR2⟩ := hS (X.2.1 (t + 1)) (X.2.1 (t + 2)) (X.2.1 (t + 3)) (X.2.1 (t + 4)) (X.2.1 (t + 5)) g hR
  obtain ⟨g9, h9⟩ := hn _ hR2
  refine ⟨g9, ?_⟩
  refine L_s (pc' := 1102) rfl rfl ?_
  refine L_s (pc' := 1103) rfl rfl ?_
  refine L_s (pc' := 1104) rfl rfl ?_
  refine L_ic (pc' := 1105) rfl q1_1 rfl ?_
  refine L_s (pc' := 1106) rfl rfl ?_
  refine L_sc (pc' := 1107) rfl (ix_ok hX 1 (by omega)) rfl ?_
  refine L_s (pc' := 1108) rfl rfl ?_
  refine L_s (pc' := 1109) rfl rfl ?_
  refine L_ic (pc' := 1110) rfl q1_2 rfl ?_
  refine L_s (pc' := 1111) rfl rfl ?_
  refine L_sc (pc' := 1112) rfl (ix_ok hX 2 (by omega)) rfl ?_
  refine L_s (pc' := 1113) rfl rfl ?_
  refine L_s (pc' := 1114) rfl rfl ?_
  refine L_ic (pc' := 1115) rfl q1_3 rfl ?_
  refine L_s (pc' := 1116) rfl rfl ?_
  refine L_sc (pc' := 1117) rfl (ix_ok hX 3 (by omega)) rfl ?_
  refine L_s (pc' := 1118) rfl rfl ?_
  refine L_s (pc' := 1119) rfl rfl ?_
  refine L_ic (pc' := 1120) rfl q1_4 rfl ?_
  refine L_s (pc' := 1121) rfl rfl ?_
  refine L_sc (pc' := 1122) rfl (ix_ok hX 4 (by omega)) rfl ?_
  refine L_s (pc' := 1123) rfl rfl ?_
  refine L_s (pc' := 1124) rfl rfl ?_
  refine L_ic (pc' := 1125) rfl q1_5 rfl ?_
  refine L_s (pc' := 1126) rfl rfl ?_
  refine L_sc (pc' := 1127) rfl (ix_ok hX 5 (by omega)) rfl ?_
  refine L_call (pc' := 1130) rfl rfl (e_x_lay (d := 50) (by decide) F1 _ _ _ _ _ _ _ h1) rfl ?_
  refine L_s (pc' := 1131) rfl rfl ?_
  refine L_s (pc' := 1132) rfl rfl ?_
  refine L_s (pc' := 1133) rfl rfl ?_
  refine L_ic (pc' := 1134) rfl q1_1 rfl ?_
  refine L_s (pc' := 1135) rfl rfl ?_
  refine L_sc (pc' := 1136) rfl (ix_ok hX 1 (by omega)) rfl ?_
  refine L_s (pc' := 1137) rfl rfl ?_
  refine L_s (pc' := 1138) rfl rfl ?_
  refine L_ic (pc' := 1139) rfl q1_2 rfl ?_
  refine L_s (pc' := 1140) rfl rfl ?_
  refine L_sc (pc' := 1141) rfl (ix_ok hX 2 (by omega)) rfl ?_
  refine L_s (pc' := 1142) rfl rfl ?_
  refine L_s (pc' := 1143) rfl rfl ?_
  refine L_ic (pc' := 1144) rfl q1_3 rfl ?_
  refine L_s (pc' := 1145) rfl rfl ?_
  refine L_sc (pc' := 1146) rfl (ix_ok hX 3 (by omega)) rfl ?_
  refine L_s (pc' := 1147) rfl rfl ?_
  refine L_s (pc' := 1148) rfl rfl ?_
  refine L_ic (pc' := 1149) rfl q1_4 rfl ?_
  refine L_s (pc' := 1150) rfl rfl ?_
  refine L_sc (pc' := 1151) rfl (ix_ok hX 4 (by omega)) rfl ?_
  refine L_s (pc' := 1152) rfl rfl ?_
  refine L_s (pc' := 1153) rfl rfl ?_
  refine L_ic (pc' := 1154) rfl q1_5 rfl ?_
  refine L_s (pc' := 1155) rfl rfl ?_
  refine L_sc (pc' := 1156) rfl (ix_ok hX 5 (by omega)) rfl ?_
  refine L_call (pc' := 1159) rfl rfl (e_m_lay (d := 50) (by decide) F2 _ _ _ _ _ _ _ h2) rfl ?_
  refine L_bt (c := a = a) (t := 1392) (n := 1162) rfl rfl rfl ?_
  exact h9
def Sim_laid (RR : Sg → Prop) : Prop := ∀ (v1 : Int32) (v2 : Int32) (v3 : Int32) (v4 : Int32) (v5 : Int32) (g : Sg), RR g → ∃ (F1 F2 : Nat) (a : Int32) (g1 g2 : Sg), x_laid F1 v1 v2 v3 v4 v5 g = some (a, g1) ∧ m_laid F2 v1 v2 v3 v4 v5 g1 = some (a, g2) ∧ RR g2
set_option maxRecDepth 40000 in
theorem lw_laid {RR : Sg → Prop} (hS : Sim_laid RR) {X : Xx} {t : Nat} {g : Sg} (hX : X.1 ≤ 3584) (ht : t + 7 ≤ X.1) (hR : RR g) (hn : ∀ g2, RR g2 → Nd X 1392 t g2) : Nd X 1164 t g := by
  obtain ⟨F1, F2, a, g1, g2, h1, h2, hR2⟩ := hS (X.2.1 (t + 1)) (X.2.1 (t + 2)) (X.2.1 (t + 3)) (X.2.1 (t + 4)) (X.2.1 (t + 5)) g hR
  obtain ⟨g9, h9⟩ := hn _ hR2
  refine ⟨g9, ?_⟩
  refine L_s (pc' := 1165) rfl rfl ?_
  refine L_s (pc' := 1166) rfl rfl ?_
  refine L_s (pc' := 1167) rfl rfl ?_
  refine L_ic (pc' := 1168) rfl q1_1 rfl ?_
  refine L_s (pc' := 1169) rfl rfl ?_
  refine L_sc (pc' := 1170) rfl (ix_ok hX 1 (by omega)) rfl ?_
  refine L_s (pc' := 1171) rfl rfl ?_
  refine L_s (pc' := 1172) rfl rfl ?_
  refine L_ic (pc' := 1173) rfl q1_2 rfl ?_
  refine L_s (pc' := 1174) rfl rfl ?_
  refine L_sc (pc' := 1175) rfl (ix_ok hX 2 (by omega)) rfl ?_
  refine L_s (pc' := 1176) rfl rfl ?_
  refine L_s (pc' := 1177) rfl rfl ?_
  refine L_ic (pc' := 1178) rfl q1_3 rfl ?_
  refine L_s (pc' := 1179) rfl rfl ?_
  refine L_sc (pc' := 1180) rfl (ix_ok hX 3 (by omega)) rfl ?_
  refine L_s (pc' := 1181) rfl rfl ?_
  refine L_s (pc' := 1182) rfl rfl ?_
  refine L_ic (pc' := 1183) rfl q1_4 rfl ?_
  refine L_s (pc' := 1184) rfl rfl ?_
  refine L_sc (pc' := 1185) rfl (ix_ok hX 4 (by omega)) rfl ?_
  refine L_s (pc' := 1186) rfl rfl ?_
  refine L_s (pc' := 1187) rfl rfl ?_
  refine L_ic (pc' := 1188) rfl q1_5 rfl ?_
  refine L_s (pc' := 1189) rfl rfl ?_
  refine L_sc (pc' := 1190) rfl (ix_ok hX 5 (by omega)) rfl ?_
  refine L_call (pc' := 1193) rfl rfl (e_x_laid (d := 50) (by decide) F1 _ _ _ _ _ _ _ h1) rfl ?_
  refine L_s (pc' := 1194) rfl rfl ?_
  refine L_s (pc' := 1195) rfl rfl ?_
  refine L_s (pc' := 1196) rfl rfl ?_
  refine L_ic (pc' := 1197) rfl q1_1 rfl ?_
  refine L_s (pc' := 1198) rfl rfl ?_
  refine L_sc (pc' := 1199) rfl (ix_ok hX 1 (by omega)) rfl ?_
  refine L_s (pc' := 1200) rfl rfl ?_
  refine L_s (pc' := 1201) rfl rfl ?_
  refine L_ic (pc' := 1202) rfl q1_2 rfl ?_
  refine L_s (pc' := 1203) rfl rfl ?_
  refine L_sc (pc' := 1204) rfl (ix_ok hX 2 (by omega)) rfl ?_
  refine L_s (pc' := 1205) rfl rfl ?_
  refine L_s (pc' := 1206) rfl rfl ?_
  refine L_ic (pc' := 1207) rfl q1_3 rfl ?_
  refine L_s (pc' := 1208) rfl rfl ?_
  refine L_sc (pc' := 1209) rfl (ix_ok hX 3 (by omega)) rfl ?_
  refine L_s (pc' := 1210) rfl rfl ?_
  refine L_s (pc' := 1211) rfl rfl ?_
  refine L_ic (pc' := 1212) rfl q1_4 rfl ?_
  refine L_s (pc' := 1213) rfl rfl ?_
  refine L_sc (pc' := 1214) rfl (ix_ok hX 4 (by omega)) rfl ?_
  refine L_s (pc' := 1215) rfl rfl ?_
  refine L_s (pc' := 1216) rfl rfl ?_
  refine L_ic (pc' := 1217) rfl q1_5 rfl ?_
  refine L_s (pc' := 1218) rfl rfl ?_
  refine L_sc (pc' := 1219) rfl (ix_ok hX 5 (by omega)) rfl ?_
  refine L_call (pc' := 1222) rfl rfl (e_m_laid (d := 50) (by decide) F2 _ _ _ _ _ _ _ h2) rfl ?_
  refine L_bt (c := a = a) (t := 1392) (n := 1225) rfl rfl rfl ?_
  exact h9
def Sim_gauge (RR : Sg → Prop) : Prop := ∀ (v1 : Int32) (v2 : Int32) (v3 : Int32) (v4 : Int32) (g : Sg), RR g → ∃ (F1 F2 : Nat) (a : Int32) (g1 g2 : Sg), x_gauge v1 v2 v3 v4 g = some (a, g1) ∧ m_gauge v1 v2 v3 v4 g1 = some (a, g2) ∧ RR g2
set_option maxRecDepth 40000 in
theorem lw_gauge {RR : Sg → Prop} (hS : Sim_gauge RR) {X : Xx} {t : Nat} {g : Sg} (hX : X.1 ≤ 3584) (ht : t + 7 ≤ X.1) (hR : RR g) (hn : ∀ g2, RR g2 → Nd X 1392 t g2) : Nd X 1227 t g := by
  obtain ⟨F1, F2, a, g1, g2, h1, h2, hR2⟩ := hS (X.2.1 (t + 1)) (X.2.1 (t + 2)) (X.2.1 (t + 3)) (X.2.1 (t + 4)) g hR
  obtain ⟨g9, h9⟩ := hn _ hR2
  refine ⟨g9, ?_⟩
  refine L_s (pc' := 1228) rfl rfl ?_
  refine L_s (pc' := 1229) rfl rfl ?_
  refine L_s (pc' := 1230) rfl rfl ?_
  refine L_ic (pc' := 1231) rfl q1_1 rfl ?_
  refine L_s (pc' := 1232) rfl rfl ?_
  refine L_sc (pc' := 1233) rfl (ix_ok hX 1 (by omega)) rfl ?_
  refine L_s (pc' := 1234) rfl rfl ?_
  refine L_s (pc' := 1235) rfl rfl ?_
  refine L_ic (pc' := 1236) rfl q1_2 rfl ?_
  refine L_s (pc' := 1237) rfl rfl ?_
  refine L_sc (pc' := 1238) rfl (ix_ok hX 2 (by omega)) rfl ?_
  refine L_s (pc' := 1239) rfl rfl ?_
  refine L_s (pc' := 1240) rfl rfl ?_
  refine L_ic (pc' := 1241) rfl q1_3 rfl ?_
  refine L_s (pc' := 1242) rfl rfl ?_
  refine L_sc (pc' := 1243) rfl (ix_ok hX 3 (by omega)) rfl ?_
  refine L_s (pc' := 1244) rfl rfl ?_
  refine L_s (pc' := 1245) rfl rfl ?_
  refine L_ic (pc' := 1246) rfl q1_4 rfl ?_
  refine L_s (pc' := 1247) rfl rfl ?_
  refine L_sc (pc' := 1248) rfl (ix_ok hX 4 (by omega)) rfl ?_
  refine L_call (pc' := 1251) rfl rfl (e_x_gauge (d := 50) (by decide) _ _ _ _ _ _ h1) rfl ?_
  refine L_s (pc' := 1252) rfl rfl ?_
  refine L_s (pc' := 1253) rfl rfl ?_
  refine L_s (pc' := 1254) rfl rfl ?_
  refine L_ic (pc' := 1255) rfl q1_1 rfl ?_
  refine L_s (pc' := 1256) rfl rfl ?_
  refine L_sc (pc' := 1257) rfl (ix_ok hX 1 (by omega)) rfl ?_
  refine L_s (pc' := 1258) rfl rfl ?_
  refine L_s (pc' := 1259) rfl rfl ?_
  refine L_ic (pc' := 1260) rfl q1_2 rfl ?_
  refine L_s (pc' := 1261) rfl rfl ?_
  refine L_sc (pc' := 1262) rfl (ix_ok hX 2 (by omega)) rfl ?_
  refine L_s (pc' := 1263) rfl rfl ?_
  refine L_s (pc' := 1264) rfl rfl ?_
  refine L_ic (pc' := 1265) rfl q1_3 rfl ?_
  refine L_s (pc' := 1266) rfl rfl ?_
  refine L_sc (pc' := 1267) rfl (ix_ok hX 3 (by omega)) rfl ?_
  refine L_s (pc' := 1268) rfl rfl ?_
  refine L_s (pc' := 1269) rfl rfl ?_
  refine L_ic (pc' := 1270) rfl q1_4 rfl ?_
  refine L_s (pc' := 1271) rfl rfl ?_
  refine L_sc (pc' := 1272) rfl (ix_ok hX 4 (by omega)) rfl ?_
  refine L_call (pc' := 1275) rfl rfl (e_m_gauge (d := 50) (by decide) _ _ _ _ _ _ h2) rfl ?_
  refine L_bt (c := a = a) (t := 1392) (n := 1278) rfl rfl rfl ?_
  exact h9
def Sim_stolen (RR : Sg → Prop) : Prop := ∀ (v1 : Int32) (v2 : Int32) (v3 : Int32) (g : Sg), RR g → ∃ (F1 F2 : Nat) (a : Int32) (g1 g2 : Sg), x_stolen F1 v1 v2 v3 g = some a ∧ m_stolen F2 v1 v2 v3 g = some a ∧ RR g2 ∧ g1 = g ∧ g2 = g
set_option maxRecDepth 40000 in
theorem lw_stolen {RR : Sg → Prop} (hS : Sim_stolen RR) {X : Xx} {t : Nat} {g : Sg} (hX : X.1 ≤ 3584) (ht : t + 7 ≤ X.1) (hR : RR g) (hn : ∀ g2, RR g2 → Nd X 1392 t g2) : Nd X 1280 t g := by
  obtain ⟨F1, F2, a, g1, g2, h1, h2, hR2, e1, e2⟩ := hS (X.2.1 (t + 1)) (X.2.1 (t + 2)) (X.2.1 (t + 3)) g hR
  subst e1
  subst e2
  obtain ⟨g9, h9⟩ := hn _ hR2
  refine ⟨g9, ?_⟩
  refine L_s (pc' := 1281) rfl rfl ?_
  refine L_s (pc' := 1282) rfl rfl ?_
  refine L_s (pc' := 1283) rfl rfl ?_
  refine L_ic (pc' := 1284) rfl q1_1 rfl ?_
  refine L_s (pc' := 1285) rfl rfl ?_
  refine L_sc (pc' := 1286) rfl (ix_ok hX 1 (by omega)) rfl ?_
  refine L_s (pc' := 1287) rfl rfl ?_
  refine L_s (pc' := 1288) rfl rfl ?_
  refine L_ic (pc' := 1289) rfl q1_2 rfl ?_
  refine L_s (pc' := 1290) rfl rfl ?_
  refine L_sc (pc' := 1291) rfl (ix_ok hX 2 (by omega)) rfl ?_
  refine L_s (pc' := 1292) rfl rfl ?_
  refine L_s (pc' := 1293) rfl rfl ?_
  refine L_ic (pc' := 1294) rfl q1_3 rfl ?_
  refine L_s (pc' := 1295) rfl rfl ?_
  refine L_sc (pc' := 1296) rfl (ix_ok hX 3 (by omega)) rfl ?_
  refine L_call (pc' := 1299) rfl rfl (e_x_stolen (d := 50) (by decide) F1 _ _ _ _ _ h1) rfl ?_
  refine L_s (pc' := 1300) rfl rfl ?_
  refine L_s (pc' := 1301) rfl rfl ?_
  refine L_s (pc' := 1302) rfl rfl ?_
  refine L_ic (pc' := 1303) rfl q1_1 rfl ?_
  refine L_s (pc' := 1304) rfl rfl ?_
  refine L_sc (pc' := 1305) rfl (ix_ok hX 1 (by omega)) rfl ?_
  refine L_s (pc' := 1306) rfl rfl ?_
  refine L_s (pc' := 1307) rfl rfl ?_
  refine L_ic (pc' := 1308) rfl q1_2 rfl ?_
  refine L_s (pc' := 1309) rfl rfl ?_
  refine L_sc (pc' := 1310) rfl (ix_ok hX 2 (by omega)) rfl ?_
  refine L_s (pc' := 1311) rfl rfl ?_
  refine L_s (pc' := 1312) rfl rfl ?_
  refine L_ic (pc' := 1313) rfl q1_3 rfl ?_
  refine L_s (pc' := 1314) rfl rfl ?_
  refine L_sc (pc' := 1315) rfl (ix_ok hX 3 (by omega)) rfl ?_
  refine L_call (pc' := 1318) rfl rfl (e_m_stolen (d := 50) (by decide) F2 _ _ _ _ _ h2) rfl ?_
  refine L_bt (c := a = a) (t := 1392) (n := 1321) rfl rfl rfl ?_
  exact h9
def Sim_count (RR : Sg → Prop) : Prop := ∀ (v1 : Int32) (g : Sg), RR g → ∃ (F1 F2 : Nat) (a : Int32) (g1 g2 : Sg), x_count F1 v1 g = some a ∧ m_count F2 v1 g = some a ∧ RR g2 ∧ g1 = g ∧ g2 = g
set_option maxRecDepth 40000 in
theorem lw_count {RR : Sg → Prop} (hS : Sim_count RR) {X : Xx} {t : Nat} {g : Sg} (hX : X.1 ≤ 3584) (ht : t + 7 ≤ X.1) (hR : RR g) (hn : ∀ g2, RR g2 → Nd X 1392 t g2) : Nd X 1323 t g := by
  obtain ⟨F1, F2, a, g1, g2, h1, h2, hR2, e1, e2⟩ := hS (X.2.1 (t + 1)) g hR
  subst e1
  subst e2
  obtain ⟨g9, h9⟩ := hn _ hR2
  refine ⟨g9, ?_⟩
  refine L_s (pc' := 1324) rfl rfl ?_
  refine L_s (pc' := 1325) rfl rfl ?_
  refine L_s (pc' := 1326) rfl rfl ?_
  refine L_ic (pc' := 1327) rfl q1_1 rfl ?_
  refine L_s (pc' := 1328) rfl rfl ?_
  refine L_sc (pc' := 1329) rfl (ix_ok hX 1 (by omega)) rfl ?_
  refine L_call (pc' := 1332) rfl rfl (e_x_count (d := 50) (by decide) F1 _ _ _ h1) rfl ?_
  refine L_s (pc' := 1333) rfl rfl ?_
  refine L_s (pc' := 1334) rfl rfl ?_
  refine L_s (pc' := 1335) rfl rfl ?_
  refine L_ic (pc' := 1336) rfl q1_1 rfl ?_
  refine L_s (pc' := 1337) rfl rfl ?_
  refine L_sc (pc' := 1338) rfl (ix_ok hX 1 (by omega)) rfl ?_
  refine L_call (pc' := 1341) rfl rfl (e_m_count (d := 50) (by decide) F2 _ _ _ h2) rfl ?_
  refine L_bt (c := a = a) (t := 1392) (n := 1344) rfl rfl rfl ?_
  exact h9
def Sim_image (RR : Sg → Prop) : Prop := ∀ (v1 : Int32) (g : Sg), RR g → ∃ (F1 F2 : Nat) (a : Int32) (g1 g2 : Sg), x_image v1 g = some (a, g1) ∧ m_image F2 v1 g1 = some (a, g2) ∧ RR g2
set_option maxRecDepth 40000 in
theorem lw_image {RR : Sg → Prop} (hS : Sim_image RR) {X : Xx} {t : Nat} {g : Sg} (hX : X.1 ≤ 3584) (ht : t + 7 ≤ X.1) (hR : RR g) (hn : ∀ g2, RR g2 → Nd X 1392 t g2) : Nd X 1346 t g := by
  obtain ⟨F1, F2, a, g1, g2, h1, h2, hR2⟩ := hS (X.2.1 (t + 1)) g hR
  obtain ⟨g9, h9⟩ := hn _ hR2
  refine ⟨g9, ?_⟩
  refine L_s (pc' := 1347) rfl rfl ?_
  refine L_s (pc' := 1348) rfl rfl ?_
  refine L_s (pc' := 1349) rfl rfl ?_
  refine L_ic (pc' := 1350) rfl q1_1 rfl ?_
  refine L_s (pc' := 1351) rfl rfl ?_
  refine L_sc (pc' := 1352) rfl (ix_ok hX 1 (by omega)) rfl ?_
  refine L_call (pc' := 1355) rfl rfl (e_x_image (d := 50) (by decide) _ _ _ h1) rfl ?_
  refine L_s (pc' := 1356) rfl rfl ?_
  refine L_s (pc' := 1357) rfl rfl ?_
  refine L_s (pc' := 1358) rfl rfl ?_
  refine L_ic (pc' := 1359) rfl q1_1 rfl ?_
  refine L_s (pc' := 1360) rfl rfl ?_
  refine L_sc (pc' := 1361) rfl (ix_ok hX 1 (by omega)) rfl ?_
  refine L_call (pc' := 1364) rfl rfl (e_m_image (d := 50) (by decide) F2 _ _ _ h2) rfl ?_
  refine L_bt (c := a = a) (t := 1392) (n := 1367) rfl rfl rfl ?_
  exact h9
def Sim_again (RR : Sg → Prop) : Prop := ∀ (v1 : Int32) (g : Sg), RR g → ∃ (F1 F2 : Nat) (a : Int32) (g1 g2 : Sg), x_again v1 g = some (a, g1) ∧ m_again F2 v1 g1 = some (a, g2) ∧ RR g2
set_option maxRecDepth 40000 in
theorem lw_again {RR : Sg → Prop} (hS : Sim_again RR) {X : Xx} {t : Nat} {g : Sg} (hX : X.1 ≤ 3584) (ht : t + 7 ≤ X.1) (hR : RR g) (hn : ∀ g2, RR g2 → Nd X 1392 t g2) : Nd X 1369 t g := by
  obtain ⟨F1, F2, a, g1, g2, h1, h2, hR2⟩ := hS (X.2.1 (t + 1)) g hR
  obtain ⟨g9, h9⟩ := hn _ hR2
  refine ⟨g9, ?_⟩
  refine L_s (pc' := 1370) rfl rfl ?_
  refine L_s (pc' := 1371) rfl rfl ?_
  refine L_s (pc' := 1372) rfl rfl ?_
  refine L_ic (pc' := 1373) rfl q1_1 rfl ?_
  refine L_s (pc' := 1374) rfl rfl ?_
  refine L_sc (pc' := 1375) rfl (ix_ok hX 1 (by omega)) rfl ?_
  refine L_call (pc' := 1378) rfl rfl (e_x_again (d := 50) (by decide) _ _ _ h1) rfl ?_
  refine L_s (pc' := 1379) rfl rfl ?_
  refine L_s (pc' := 1380) rfl rfl ?_
  refine L_s (pc' := 1381) rfl rfl ?_
  refine L_ic (pc' := 1382) rfl q1_1 rfl ?_
  refine L_s (pc' := 1383) rfl rfl ?_
  refine L_sc (pc' := 1384) rfl (ix_ok hX 1 (by omega)) rfl ?_
  refine L_call (pc' := 1387) rfl rfl (e_m_again (d := 50) (by decide) F2 _ _ _ h2) rfl ?_
  refine L_bt (c := a = a) (t := 1392) (n := 1390) rfl rfl rfl ?_
  exact h9
