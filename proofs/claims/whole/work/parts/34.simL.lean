/-! owed -/
/-- one row set anew -/
def sc (g : Sg) (a : Nat) (f : Nat → Int32) : Sg := fun c => if c = a then f else g c
theorem sc_n {g : Sg} {a b : Nat} {f : Nat → Int32} (h : b ≠ a) : sc g a f b = g b := if_neg h
theorem sc_e {g : Sg} {a : Nat} {f : Nat → Int32} : sc g a f a = f := if_pos rfl
theorem sc_u {g : Sg} {a i : Nat} {f : Nat → Int32} {v : Int32} : up2 (sc g a f) a i v = sc g a (up1 f i v) := by
  funext c k
  unfold up2 sc up1
  by_cases h : c = a
  · subst h
    rw [if_pos rfl, if_pos rfl]
    by_cases e : k = i
    · rw [if_pos ⟨rfl, e⟩, if_pos e]
    · rw [if_neg (fun q => e q.2), if_neg e]
  · rw [if_neg (fun q => h q.1), if_neg h, if_neg h]
theorem sc_s {g : Sg} {a : Nat} : sc g a (g a) = g := by
  funext c
  unfold sc
  by_cases h : c = a
  · rw [if_pos h, h]
  · rw [if_neg h]
theorem sc_c {g : Sg} {a b : Nat} {f f2 : Nat → Int32} (h : a ≠ b) : sc (sc g a f) b f2 = sc (sc g b f2) a f := by
  funext c
  unfold sc
  by_cases h1 : c = a
  · rw [if_neg (fun q => h (h1.symm.trans q)), if_pos h1, if_pos h1]
  · by_cases h2 : c = b
    · rw [if_pos h2, if_neg h1, if_pos h2]
    · rw [if_neg h2, if_neg h1, if_neg h1, if_neg h2]
theorem sc_k {g : Sg} {a : Nat} {f f2 : Nat → Int32} : sc (sc g a f) a f2 = sc g a f2 := by
  funext c
  unfold sc
  by_cases h1 : c = a
  · rw [if_pos h1, if_pos h1]
  · rw [if_neg h1, if_neg h1, if_neg h1]
/-- the last deed of just this week, not void, that has the hour -/
def lastD (c : Sg) (h w : Int32) : Nat → Option Nat
  | 0 => none
  | d + 1 => if c 27 d = w ∧ c 29 d = -1 ∧ c 24 d ≤ h ∧ h ≤ c 25 d then some d else lastD c h w d
section SL
variable {c g : Sg} {D N Q : Nat}
theorem nnE0 {a : Nat} (h : a < 2147483648) : (0 : Int32) ≤ nn a := by
  rw [show (0 : Int32) = nn 0 from rfl, nnE (by decide) h]
  exact Nat.zero_le _
/-- known today is: not void -/
theorem okD_t (h : RRig c (g 216) D N Q) (hQ : Q ≤ 9599) {d : Nat} (hd : d < D) {x w : Int32} : okD c x w (nn (Q / 96)) d ↔ (c 24 d ≤ x ∧ x ≤ c 25 d ∧ c 27 d ≤ w ∧ c 29 d = -1) := by
  obtain ⟨y, hy, ey⟩ := h.dY d hd
  have h1 : c 28 d ≤ nn (Q / 96) := by
    rw [ey, nnE (by omega) (by omega)]
    exact hy
  constructor
  · rintro ⟨e1, e2, e3, e4, e5⟩
    refine ⟨e1, e2, e3, ?_⟩
    rcases e5 with e5 | e5
    · exact e5
    · rcases h.dV d hd with e | ⟨z, hz, e⟩
      · exact e
      · rw [e, nnL (by omega) (by omega)] at e5
        omega
  · rintro ⟨e1, e2, e3, e4⟩
    exact ⟨e1, e2, e3, h1, Or.inl e4⟩
/-- p is the week before w -/
theorem ownB_step (h : RRig c (g 216) D N Q) (hQ : Q ≤ 9599) {x w p : Int32} (hp : ∀ d, d < D → (c 27 d ≤ w ↔ c 27 d = w ∨ c 27 d ≤ p)) (hpw : p < w) : ∀ d, d ≤ D → ownB c x w (nn (Q / 96)) d = (match lastD c x w d with
    | some b => some b
    | none => ownB c x p (nn (Q / 96)) d) ∧ ∀ b, lastD c x w d = some b → b < d ∧ c 27 b = w := by
  intro d
  induction d with
  | zero => exact fun _ => ⟨rfl, fun b e => by cases e⟩
  | succ d ih =>
    intro hd
    obtain ⟨ih, ih2⟩ := ih (by omega)
    by_cases q : c 27 d = w ∧ c 29 d = -1 ∧ c 24 d ≤ x ∧ x ≤ c 25 d
    · have e1 : lastD c x w (d + 1) = some d := if_pos q
      rw [e1]
      refine ⟨?_, fun b e => by cases e; exact ⟨Nat.lt_succ_self _, q.1⟩⟩
      refine ownB_y ((okD_t h hQ (by omega)).mpr ⟨q.2.2.1, q.2.2.2, by rw [q.1]; exact Int32.le_refl _, q.2.1⟩) ?_
      cases hb : ownB c x w (nn (Q / 96)) d with
      | none =>
        obtain ⟨s, hs, es⟩ := h.dS d (by omega)
        show ¬ c 27 d < 0
        rw [es, nnP (by omega)]
        exact id
      | some b =>
        have := (ownB_ok hb).2.2.2.1
        show ¬ c 27 d < c 27 b
        rw [q.1]
        exact Int32.not_lt.mpr this
    · have e1 : lastD c x w (d + 1) = lastD c x w d := if_neg q
      rw [e1]
      refine ⟨?_, fun b e => by have := ih2 b e; exact ⟨by omega, this.2⟩⟩
      by_cases ok : okD c x w (nn (Q / 96)) d
      · have ok2 := (okD_t h hQ (by omega)).mp ok
        have sp : c 27 d ≤ p := by
          rcases (hp d (by omega)).mp ok2.2.2.1 with e | e
          · exact absurd ⟨e, ok2.2.2.2, ok2.1, ok2.2.1⟩ q
          · exact e
        have okp : okD c x p (nn (Q / 96)) d := (okD_t h hQ (by omega)).mpr ⟨ok2.1, ok2.2.1, sp, ok2.2.2.2⟩
        cases hl : lastD c x w d with
        | some b =>
          rw [hl] at ih
          refine ownB_k ih ?_
          rw [(ih2 b hl).2]
          exact Int32.lt_of_le_of_lt sp hpw
        | none =>
          rw [hl] at ih
          have ih : ownB c x w (nn (Q / 96)) d = ownB c x p (nn (Q / 96)) d := ih
          show ownB c x w (nn (Q / 96)) (d + 1) = ownB c x p (nn (Q / 96)) (d + 1)
          by_cases e2 : c 27 d < oF c (ownB c x w (nn (Q / 96)) d)
          · cases hb : ownB c x w (nn (Q / 96)) d with
            | none =>
              rw [hb] at e2
              obtain ⟨s, hs, es⟩ := h.dS d (by omega)
              rw [es] at e2
              have e2 : nn s < 0 := e2
              rw [nnP (by omega)] at e2
              exact absurd e2 id
            | some b =>
              rw [hb] at e2
              rw [ownB_k hb e2, ownB_k (ih.symm.trans hb) e2]
          · rw [ownB_y ok e2, ownB_y okp (by rw [← ih]; exact e2)]
      · have okp : ¬ okD c x p (nn (Q / 96)) d := fun e => by
          have e := (okD_t h hQ (by omega)).mp e
          exact ok ((okD_t h hQ (by omega)).mpr ⟨e.1, e.2.1, (hp d (by omega)).mpr (Or.inr e.2.2.1), e.2.2.2⟩)
        rw [ownB_n ok, ownB_n okp]
        exact ih
/-- the owners' row, deed by deed of one week -/
def layf (c : Sg) (w : Int32) (f : Nat → Int32) : Nat → Nat → Int32
  | 0 => f
  | d + 1 => if c 27 d = w ∧ c 29 d = -1 then (fun i => if Int32.toNatClampNeg (c 24 d) ≤ i ∧ i ≤ Int32.toNatClampNeg (c 25 d) then c 26 d else layf c w f d i) else layf c w f d
theorem layf_eq (h : RRig c (g 216) D N Q) {w : Int32} {f : Nat → Int32} {i : Nat} (hi : i < 168) : ∀ d, d ≤ D → layf c w f d i = match lastD c (nn i) w d with
    | some b => c 26 b
    | none => f i := by
  intro d
  induction d with
  | zero => exact fun _ => rfl
  | succ d ih =>
    intro hd
    have ih := ih (by omega)
    obtain ⟨a, b, hab, hb, ea, eb⟩ := h.dFL d (by omega)
    have k1 : (c 24 d ≤ nn i ∧ nn i ≤ c 25 d) ↔ (Int32.toNatClampNeg (c 24 d) ≤ i ∧ i ≤ Int32.toNatClampNeg (c 25 d)) := by
      rw [ea, eb, nnT (by omega), nnT (by omega), nnE (by omega) (by omega), nnE (by omega) (by omega)]
    by_cases q : c 27 d = w ∧ c 29 d = -1
    · have e1 : layf c w f (d + 1) i = if Int32.toNatClampNeg (c 24 d) ≤ i ∧ i ≤ Int32.toNatClampNeg (c 25 d) then c 26 d else layf c w f d i := by
        show (if c 27 d = w ∧ c 29 d = -1 then (fun i => if Int32.toNatClampNeg (c 24 d) ≤ i ∧ i ≤ Int32.toNatClampNeg (c 25 d) then c 26 d else layf c w f d i) else layf c w f d) i = _
        rw [if_pos q]
      rw [e1]
      by_cases q2 : c 24 d ≤ nn i ∧ nn i ≤ c 25 d
      · rw [if_pos (k1.mp q2), show lastD c (nn i) w (d + 1) = some d from if_pos ⟨q.1, q.2, q2⟩]
      · rw [if_neg (fun e => q2 (k1.mpr e)), show lastD c (nn i) w (d + 1) = lastD c (nn i) w d from if_neg (fun e => q2 e.2.2)]
        exact ih
    · have e1 : layf c w f (d + 1) i = layf c w f d i := by
        show (if c 27 d = w ∧ c 29 d = -1 then (fun i => if Int32.toNatClampNeg (c 24 d) ≤ i ∧ i ≤ Int32.toNatClampNeg (c 25 d) then c 26 d else layf c w f d i) else layf c w f d) i = _
        rw [if_neg q]
      rw [e1, show lastD c (nn i) w (d + 1) = lastD c (nn i) w d from if_neg (fun e => q ⟨e.1, e.2.1⟩)]
      exact ih
theorem layIn {K : Int32 → Int32 → Sg → Option Sg} {v1 : Int32} {d l : Nat} {s : Sg} (hd : d < 120) (hl : l < 168) (el : s 25 d = nn l) : ∀ m x F f, x + m = l + 1 → m < F → rights_layOver_38 K F v1 (nn d) (nn x) (sc s 207 f) = K v1 (nn (d + 1)) (sc s 207 (fun i => if x ≤ i ∧ i ≤ l then s 26 d else f i)) := by
  intro m
  induction m with
  | zero =>
    intro x F f hx hF
    obtain ⟨F, rfl⟩ : ∃ F2, F = F2 + 1 := ⟨F - 1, by omega⟩
    have h2 : l < x := by omega
    unfold rights_layOver_38
    refine st_t (by simp (disch := first | omega | decide) only [lt1, nnMl, nnMr, nnAl, nnAr, nnA, nnM, nnB, nnT, nnP, nnE, nnEl, nnEr, nnL, nnLl, nnLr, nnQ, nnQr, nnN, Nat.add_zero, if_false, if_true, Option.bind_some, not_true, not_false_iff, not_true_eq_false, not_false_eq_true, eq_self, Nat.not_lt_zero, z10, z01, or_true, true_or, or_false, false_or, true_and, false_and, hd]) (st_t ?_ ?_)
    · rw [nnT (by omega), sc_n (by omega), el]
      simp (disch := first | omega | decide) only [lt1, nnMl, nnMr, nnAl, nnAr, nnA, nnM, nnB, nnT, nnP, nnE, nnEl, nnEr, nnL, nnLl, nnLr, nnQ, nnQr, nnN, Nat.add_zero, if_false, if_true, Option.bind_some, not_true, not_false_iff, not_true_eq_false, not_false_eq_true, eq_self, Nat.not_lt_zero, z10, z01, or_true, true_or, or_false, false_or, true_and, false_and, h2]
    · rw [show nn d + 1 = nn (d + 1) from nnA d 1]
      congr 2
      funext i
      exact (if_neg (by omega)).symm
  | succ m ih =>
    intro x F f hx hF
    obtain ⟨F, rfl⟩ : ∃ F2, F = F2 + 1 := ⟨F - 1, by omega⟩
    have h2 : ¬ l < x := by omega
    have h3 : ¬ 168 ≤ x := by omega
    have h4 : x < 168 := by omega
    unfold rights_layOver_38
    refine st_t (by simp (disch := first | omega | decide) only [lt1, nnMl, nnMr, nnAl, nnAr, nnA, nnM, nnB, nnT, nnP, nnE, nnEl, nnEr, nnL, nnLl, nnLr, nnQ, nnQr, nnN, Nat.add_zero, if_false, if_true, Option.bind_some, not_true, not_false_iff, not_true_eq_false, not_false_eq_true, eq_self, Nat.not_lt_zero, z10, z01, or_true, true_or, or_false, false_or, true_and, false_and, hd]) (st_f ?_ (st_f (by simp (disch := first | omega | decide) only [lt1, nnMl, nnMr, nnAl, nnAr, nnA, nnM, nnB, nnT, nnP, nnE, nnEl, nnEr, nnL, nnLl, nnLr, nnQ, nnQr, nnN, Nat.add_zero, if_false, if_true, Option.bind_some, not_true, not_false_iff, not_true_eq_false, not_false_eq_true, eq_self, Nat.not_lt_zero, z10, z01, or_true, true_or, or_false, false_or, true_and, false_and, h3]) (st_t (by simp (disch := first | omega | decide) only [lt1, nnMl, nnMr, nnAl, nnAr, nnA, nnM, nnB, nnT, nnP, nnE, nnEl, nnEr, nnL, nnLl, nnLr, nnQ, nnQr, nnN, Nat.add_zero, if_false, if_true, Option.bind_some, not_true, not_false_iff, not_true_eq_false, not_false_eq_true, eq_self, Nat.not_lt_zero, z10, z01, or_true, true_or, or_false, false_or, true_and, false_and, hd]) (st_w (by simp (disch := first | omega | decide) only [lt1, nnMl, nnMr, nnAl, nnAr, nnA, nnM, nnB, nnT, nnP, nnE, nnEl, nnEr, nnL, nnLl, nnLr, nnQ, nnQr, nnN, Nat.add_zero, if_false, if_true, Option.bind_some, not_true, not_false_iff, not_true_eq_false, not_false_eq_true, eq_self, Nat.not_lt_zero, z10, z01, or_true, true_or, or_false, false_or, true_and, false_and, h4]) ?_))))
    · rw [nnT (by omega), sc_n (by omega), el]
      simp (disch := first | omega | decide) only [lt1, nnMl, nnMr, nnAl, nnAr, nnA, nnM, nnB, nnT, nnP, nnE, nnEl, nnEr, nnL, nnLl, nnLr, nnQ, nnQr, nnN, Nat.add_zero, if_false, if_true, Option.bind_some, not_true, not_false_iff, not_true_eq_false, not_false_eq_true, eq_self, Nat.not_lt_zero, z10, z01, or_true, true_or, or_false, false_or, true_and, false_and, h2]
    · rw [nnT (by omega), nnT (by omega), sc_n (by omega), sc_u, show nn x + 1 = nn (x + 1) from nnA x 1]
      rw [ih (x + 1) F _ (by omega) (by omega)]
      congr 2
      funext i
      by_cases e : i = x
      · subst e
        rw [if_neg (by omega), up1_eq, if_pos (by omega)]
      · rw [up1_ne e]
        by_cases e2 : x + 1 ≤ i ∧ i ≤ l
        · rw [if_pos e2, if_pos (by omega)]
        · rw [if_neg e2, if_neg (by omega)]
theorem layL (h : RRig c (g 216) D N Q) {s : Sg} (hs : ∀ i, 22 ≤ i → i ≤ 30 → s i = c i) {w : Int32} {F0 : Nat} (hF0 : 200 < F0) (f : Nat → Int32) : ∀ m d F, d + m = D → m < F → rights_layOver_2 F0 F w (nn d) (sc s 207 (layf c w f d)) = some (sc s 207 (layf c w f D)) := by
  have hD := h.hD
  have hh : ∀ i, 22 ≤ i → i ≤ 30 → ∀ f, sc s 207 f i = c i := fun i e1 e2 f => by rw [sc_n (by omega), hs i e1 e2]
  intro m
  induction m with
  | zero =>
    intro d F hd hF
    obtain ⟨F, rfl⟩ : ∃ F2, F = F2 + 1 := ⟨F - 1, by omega⟩
    have : d = D := by omega
    subst this
    unfold rights_layOver_2
    rw [hh 22 (by decide) (by decide), h.cD]
    exact if_pos (by simp (disch := first | omega | decide) only [lt1, nnMl, nnMr, nnAl, nnAr, nnA, nnM, nnB, nnT, nnP, nnE, nnEl, nnEr, nnL, nnLl, nnLr, nnQ, nnQr, nnN, Nat.add_zero, if_false, if_true, Option.bind_some, not_true, not_false_iff, not_true_eq_false, not_false_eq_true, eq_self, Nat.not_lt_zero, z10, z01, or_true, true_or, or_false, false_or, true_and, false_and, Nat.le_refl])
  | succ m ih =>
    intro d F hd hF
    obtain ⟨F, rfl⟩ : ∃ F2, F = F2 + 1 := ⟨F - 1, by omega⟩
    have h2 : ¬ D ≤ d := by omega
    have h1 : d < 120 := by omega
    have hi : inb (nn d) 120 = true := by simp (disch := first | omega | decide) only [lt1, nnMl, nnMr, nnAl, nnAr, nnA, nnM, nnB, nnT, nnP, nnE, nnEl, nnEr, nnL, nnLl, nnLr, nnQ, nnQr, nnN, Nat.add_zero, if_false, if_true, Option.bind_some, not_true, not_false_iff, not_true_eq_false, not_false_eq_true, eq_self, Nat.not_lt_zero, z10, z01, or_true, true_or, or_false, false_or, true_and, false_and, h1]
    have IH := ih (d + 1) F (by omega) (by omega)
    unfold rights_layOver_2
    rw [hh 22 (by decide) (by decide), h.cD, hh 27 (by decide) (by decide), hh 29 (by decide) (by decide), hh 24 (by decide) (by decide), nnT (by omega), show nn d + 1 = nn (d + 1) from nnA d 1]
    refine st_f (by simp (disch := first | omega | decide) only [lt1, nnMl, nnMr, nnAl, nnAr, nnA, nnM, nnB, nnT, nnP, nnE, nnEl, nnEr, nnL, nnLl, nnLr, nnQ, nnQr, nnN, Nat.add_zero, if_false, if_true, Option.bind_some, not_true, not_false_iff, not_true_eq_false, not_false_eq_true, eq_self, Nat.not_lt_zero, z10, z01, or_true, true_or, or_false, false_or, true_and, false_and, h2]) (st_t hi ?_)
    by_cases q1 : c 27 d = w
    rotate_left
    · refine st_t q1 ?_
      rw [show layf c w f (d + 1) = layf c w f d from if_neg (fun e => q1 e.1)] at IH
      exact IH
    refine st_f (fun e => e q1) (st_t hi ?_)
    by_cases q2 : c 29 d = -1
    rotate_left
    · refine st_t q2 ?_
      rw [show layf c w f (d + 1) = layf c w f d from if_neg (fun e => q2 e.2)] at IH
      exact IH
    refine st_f (fun e => e q2) (st_t hi (st_l ?_))
    obtain ⟨a, b, hab, hb, ea, eb⟩ := h.dFL d (by omega)
    rw [ea, layIn (s := s) h1 hb (by rw [hs 25 (by decide) (by decide), eb]) (b + 1 - a) a F0 _ (by omega) (by omega)]
    have e : (fun i => if a ≤ i ∧ i ≤ b then s 26 d else layf c w f d i) = layf c w f (d + 1) := by
      rw [show layf c w f (d + 1) = _ from if_pos ⟨q1, q2⟩, hs 26 (by decide) (by decide), ea, eb, nnT (by omega), nnT (by omega)]
    rw [e]
    exact IH
/-- the owners' row behind the weeks up to p becomes that behind the weeks up to w -/
theorem lay_y (h : RRig c (g 216) D N Q) (hQ : Q ≤ 9599) {s : Sg} (hs : ∀ i, 22 ≤ i → i ≤ 30 → s i = c i) {w p : Int32} (hp : ∀ d, d < D → (c 27 d ≤ w ↔ c 27 d = w ∨ c 27 d ≤ p)) (hpw : p < w) {F : Nat} (hF : 200 < F) {f : Nat → Int32} (hf : ∀ i, i < 168 → f i = ownS c (nn i) p (nn (Q / 96)) D) : ∃ f2, rights_layOver F w (sc s 207 f) = some (sc s 207 f2) ∧ ∀ i, i < 168 → f2 i = ownS c (nn i) w (nn (Q / 96)) D := by
  refine ⟨layf c w f D, layL h hs hF f D 0 F (by omega) (by have := h.hD; omega), fun i hi => ?_⟩
  rw [layf_eq h hi D (Nat.le_refl _)]
  unfold ownS
  rw [(ownB_step h hQ hp hpw D (Nat.le_refl _)).1, hf i hi]
  cases lastD c (nn i) w D <;> rfl
theorem prev_w (h : RRig c (g 216) D N Q) {w : Nat} (hw : w < 100) : ∀ d, d < D → (c 27 d ≤ nn w ↔ c 27 d = nn w ∨ c 27 d ≤ nn w - 1) := by
  intro d hd
  obtain ⟨s, hs, es⟩ := h.dS d hd
  rw [es, nnE (by omega) (by omega), nnQ (by omega) (by omega), le_lt1 (by omega), nnL (by omega) (by omega)]
  omega
theorem prev_lt {w : Nat} (hw : w < 100) : nn w - 1 < nn w := by
  rw [← le_lt1 (by omega)]
  exact Int32.le_refl _
theorem own_neg (h : RRig c (g 216) D N Q) {x k : Int32} : ownS c x (-1) k D = -1 := by
  unfold ownS
  cases hb : ownB c x (-1) k D with
  | none => rfl
  | some b =>
    obtain ⟨h1, h2⟩ := ownB_ok hb
    obtain ⟨s, hs, es⟩ := h.dS b h1
    have h3 := h2.2.2.1
    rw [es] at h3
    exact absurd (Int32.le_trans (nnE0 (by omega)) h3) (by decide)
end SL
