/-! the statute's lines over a holder: what is reckoned, and the class's side -/
def FVf (dr H Nn Fa who ow : Int32) (w : Nat) : Int32 := if w = 1 then dr else if w = 2 then H else if w = 3 then Nn else if w = 4 then Fa else if w = 5 then who else (if 0 < ow then ow else 0)
def isT (v s l : Int32) : Prop := if s = 15 then v < l else if s = 16 then l < v else v = l
def okTt (c : Sg) (FV : Nat → Int32) (tt : Nat) : Prop := isT (FV (cn c 38 tt - 6)) (c 39 tt) (c 40 tt) ↔ ¬ c 37 tt = 1
def lineOk (c : Sg) (FV : Nat → Int32) (k : Nat) : Prop := ∀ t, t < cn c 36 k → okTt c FV (4 * k + t)
noncomputable def jg (c : Sg) (FV : Nat → Int32) : Nat → Nat → Int32 → Int32 → Int32 × Int32
  | 0, _, w, u => (w, u)
  | m + 1, k, w, u => by
    classical
    exact if lineOk c FV k then (if c 34 k = 4 then jg c FV m (k + 1) (w + c 35 k) u else if c 34 k = 5 then jg c FV m (k + 1) w (c 35 k) else (0, u)) else jg c FV m (k + 1) w u
theorem jg_n {c : Sg} {FV : Nat → Int32} {m k : Nat} {w u : Int32} (h : ¬ lineOk c FV k) : jg c FV (m + 1) k w u = jg c FV m (k + 1) w u := if_neg h
theorem jg_4 {c : Sg} {FV : Nat → Int32} {m k : Nat} {w u : Int32} (h : lineOk c FV k) (h4 : c 34 k = 4) : jg c FV (m + 1) k w u = jg c FV m (k + 1) (w + c 35 k) u := (if_pos h).trans (if_pos h4)
theorem jg_5 {c : Sg} {FV : Nat → Int32} {m k : Nat} {w u : Int32} (h : lineOk c FV k) (h5 : c 34 k = 5) : jg c FV (m + 1) k w u = jg c FV m (k + 1) w (c 35 k) := (if_pos h).trans ((if_neg (by rw [h5]; decide)).trans (if_pos h5))
theorem jg_6 {c : Sg} {FV : Nat → Int32} {m k : Nat} {w u : Int32} (h : lineOk c FV k) (h6 : c 34 k = 6) : jg c FV (m + 1) k w u = (0, u) := (if_pos h).trans ((if_neg (by rw [h6]; decide)).trans (if_neg (by rw [h6]; decide)))
section WL
variable {c S : Sg} {a0 : Nat → Int32} {T L : Nat}
/-- the class's scratch of one holder -/
def CSt (c S : Sg) (FV : Nat → Int32) (who : Nat) : Prop := (∀ i, 33 ≤ i → i ≤ 40 → S i = c i) ∧ FV 1 = (if S 200 7 = 0 then 0 else 1) ∧ FV 2 = S 202 who ∧ FV 3 = S 203 who ∧ FV 4 = S 204 who ∧ FV 5 = nn who ∧ FV 6 = (if 0 < S 201 who then S 201 who else 0)
theorem fact_x {FV : Nat → Int32} {who w : Nat} (hS : CSt c S FV who) (hw : who < 8) (h1 : 1 ≤ w) (h6 : w ≤ 6) : reckoning_factOf (nn (6 + w)) (nn who) S = some (FV w) := by
  obtain ⟨_, f1, f2, f3, f4, f5, f6⟩ := hS
  have hi : inb (nn who) 8 = true := by simp (disch := first | omega | decide) only [lt1, nnMl, nnMr, nnAl, nnAr, nnA, nnM, nnB, nnT, nnP, nnE, nnEl, nnEr, nnL, nnLl, nnLr, nnQ, nnQr, nnN, Nat.add_zero, if_false, if_true, Option.bind_some, not_true, not_false_iff, not_true_eq_false, not_false_eq_true, eq_self, Nat.not_lt_zero, z10, z01, or_true, true_or, or_false, false_or, true_and, false_and, hw]
  have c6 : w = 1 ∨ w = 2 ∨ w = 3 ∨ w = 4 ∨ w = 5 ∨ w = 6 := by omega
  unfold reckoning_factOf
  rw [nnT (by omega)]
  rcases c6 with rfl | rfl | rfl | rfl | rfl | rfl
  · refine st_f (by decide) (st_f (by decide) (st_f (by decide) (st_f (by decide) (st_f (by decide) ?_))))
    rw [f1]
    by_cases e : S 200 7 = 0
    · rw [if_pos e, if_pos e]
    · rw [if_neg e, if_neg e]
  · exact st_t rfl (st_t hi (by rw [f2]))
  · exact st_f (by decide) (st_t rfl (st_t hi (by rw [f3])))
  · exact st_f (by decide) (st_f (by decide) (st_t rfl (st_t hi (by rw [f4]))))
  · exact st_f (by decide) (st_f (by decide) (st_f (by decide) (st_t rfl (by rw [f5]))))
  · exact st_f (by decide) (st_f (by decide) (st_f (by decide) (st_f (by decide) (st_t rfl (st_t hi (by rw [f6]))))))
theorem isT_15 {v l : Int32} : isT v 15 l ↔ v < l := by
  unfold isT
  rw [if_pos rfl]
theorem isT_16 {v l : Int32} : isT v 16 l ↔ l < v := by
  unfold isT
  rw [if_neg (by decide), if_pos rfl]
theorem isT_17 {v l : Int32} : isT v 17 l ↔ v = l := by
  unfold isT
  rw [if_neg (by decide), if_neg (by decide)]
theorem h100 {tt : Nat} (ht : tt < 64) {P : Prop} {b : Int32} (h37 : S 37 tt = 0 ∨ S 37 tt = 1) (hb : b = b01 P) : reckoning_holds_100 (nn tt) b S = some (b01 (P ↔ ¬ S 37 tt = 1)) := by
  unfold reckoning_holds_100
  rw [nnT (by omega), hb]
  refine st_t (by simp (disch := first | omega | decide) only [lt1, nnMl, nnMr, nnAl, nnAr, nnA, nnM, nnB, nnT, nnP, nnE, nnEl, nnEr, nnL, nnLl, nnLr, nnQ, nnQr, nnN, Nat.add_zero, if_false, if_true, Option.bind_some, not_true, not_false_iff, not_true_eq_false, not_false_eq_true, eq_self, Nat.not_lt_zero, z10, z01, or_true, true_or, or_false, false_or, true_and, false_and, ht]) ?_
  by_cases hP : P
  · rw [b01_y hP]
    rcases h37 with e | e
    · rw [e, b01_y ⟨fun _ => by decide, fun _ => hP⟩]
      exact st_f (by decide) rfl
    · rw [e, b01_n (fun q => q.mp hP rfl)]
      exact st_t rfl rfl
  · rw [b01_n hP]
    rcases h37 with e | e
    · rw [e, b01_n (fun q => hP (q.mpr (by decide)))]
      exact st_t rfl rfl
    · rw [e, b01_y ⟨fun q => absurd q hP, fun q => absurd rfl q⟩]
      exact st_f (by decide) rfl
theorem holds_x {FV : Nat → Int32} {who tt i : Nat} {a : Nat → Int32} (hS : CSt c S FV who) (hw : who < 8) (ht : tt < 64) (h : tTest (c 37 tt) (c 38 tt) (c 39 tt) (c 40 tt) a i) : reckoning_holds (nn tt) (nn who) S = some (b01 (okTt c FV tt)) := by
  obtain ⟨h1, h2, ⟨w, w1, w6, hf, h3⟩, h4, h5⟩ := h
  have hi : inb (nn tt) 64 = true := by simp (disch := first | omega | decide) only [lt1, nnMl, nnMr, nnAl, nnAr, nnA, nnM, nnB, nnT, nnP, nnE, nnEl, nnEr, nnL, nnLl, nnLr, nnQ, nnQr, nnN, Nat.add_zero, if_false, if_true, Option.bind_some, not_true, not_false_iff, not_true_eq_false, not_false_eq_true, eq_self, Nat.not_lt_zero, z10, z01, or_true, true_or, or_false, false_or, true_and, false_and, ht]
  have e37 : S 37 = c 37 := hS.1 37 (by decide) (by decide)
  have ew : cn c 38 tt - 6 = w := by
    unfold cn
    rw [hf, nnT (by omega)]
    omega
  have ok : okTt c FV tt = (isT (FV w) (c 39 tt) (c 40 tt) ↔ ¬ S 37 tt = 1) := by
    unfold okTt
    rw [ew, e37]
  rw [ok]
  unfold reckoning_holds
  rw [nnT (show tt < 2147483648 by omega), hS.1 38 (by decide) (by decide), hS.1 39 (by decide) (by decide), hS.1 40 (by decide) (by decide), hf]
  refine st_t hi (st_b (fact_x hS hw w1 w6) (st_w hi (st_w hi ?_)))
  have h37 : S 37 tt = 0 ∨ S 37 tt = 1 := by rw [e37]; exact h1
  unfold tSign at h4
  unfold reckoning_holds_64 reckoning_holds_81 reckoning_holds_98
  rcases h4 with ⟨e, _⟩ | ⟨e, _⟩ | ⟨e, _⟩
  · rw [e]
    refine st_t rfl ?_
    by_cases q : c 40 tt ≤ FV w
    · exact st_t q (h100 ht h37 (b01_n (fun p => absurd (isT_15.mp p) (Int32.not_lt.mpr q))).symm)
    · exact st_f q (h100 ht h37 (b01_y (isT_15.mpr (Int32.not_le.mp q))).symm)
  · rw [e]
    refine st_f (by decide) (st_t rfl ?_)
    by_cases q : FV w ≤ c 40 tt
    · exact st_t q (h100 ht h37 (b01_n (fun p => absurd (isT_16.mp p) (Int32.not_lt.mpr q))).symm)
    · exact st_f q (h100 ht h37 (b01_y (isT_16.mpr (Int32.not_le.mp q))).symm)
  · rw [e]
    refine st_f (by decide) (st_f (by decide) ?_)
    by_cases q : FV w = c 40 tt
    · exact st_f (fun p => p q) (h100 ht h37 (b01_y (isT_17.mpr q)).symm)
    · exact st_t q (h100 ht h37 (b01_n (fun p => q (isT_17.mp p))).symm)
theorem allL {FV : Nat → Int32} {who k n : Nat} {a : Nat → Int32} {b : Nat} (hS : CSt c S FV who) (hw : who < 8) (hk : k < 16) (hn : n ≤ 4) (h36 : c 36 k = nn n) (h : ∀ t, t < n → tTest (c 37 (4 * k + t)) (c 38 (4 * k + t)) (c 39 (4 * k + t)) (c 40 (4 * k + t)) a (b + 4 * t)) : ∀ m t F, t + m = n → m < F → reckoning_allHold_3 F (nn k) (nn who) (nn t) S = some (b01 (∀ t2, t ≤ t2 → t2 < n → okTt c FV (4 * k + t2))) := by
  have e36 : S 36 = c 36 := hS.1 36 (by decide) (by decide)
  intro m
  induction m with
  | zero =>
    intro t F hm hF
    obtain ⟨F, rfl⟩ : ∃ F2, F = F2 + 1 := ⟨F - 1, by omega⟩
    have : t = n := by omega
    subst this
    rw [b01_y (fun t2 q1 q2 => absurd q1 (by omega))]
    unfold reckoning_allHold_3
    rw [nnT (by omega), e36, h36]
    exact st_t (by simp (disch := first | omega | decide) only [lt1, nnMl, nnMr, nnAl, nnAr, nnA, nnM, nnB, nnT, nnP, nnE, nnEl, nnEr, nnL, nnLl, nnLr, nnQ, nnQr, nnN, Nat.add_zero, if_false, if_true, Option.bind_some, not_true, not_false_iff, not_true_eq_false, not_false_eq_true, eq_self, Nat.not_lt_zero, z10, z01, or_true, true_or, or_false, false_or, true_and, false_and, hk]) (st_t (Int32.le_refl _) rfl)
  | succ m ih =>
    intro t F hm hF
    obtain ⟨F, rfl⟩ : ∃ F2, F = F2 + 1 := ⟨F - 1, by omega⟩
    have h3 : ¬ n ≤ t := by omega
    have h4 : ¬ 4 ≤ t := by omega
    have ei : nn k * 4 + nn t = nn (4 * k + t) := by rw [show 4 * k + t = k * 4 + t by omega]; simp (disch := first | omega | decide) only [lt1, nnMl, nnMr, nnAl, nnAr, nnA, nnM, nnB, nnT, nnP, nnE, nnEl, nnEr, nnL, nnLl, nnLr, nnQ, nnQr, nnN, Nat.add_zero, if_false, if_true, Option.bind_some, not_true, not_false_iff, not_true_eq_false, not_false_eq_true, eq_self, Nat.not_lt_zero, z10, z01, or_true, true_or, or_false, false_or, true_and, false_and]
    unfold reckoning_allHold_3
    rw [nnT (show k < 2147483648 by omega), e36, h36, ei, show nn t + 1 = nn (t + 1) from nnA t 1]
    refine st_t (by simp (disch := first | omega | decide) only [lt1, nnMl, nnMr, nnAl, nnAr, nnA, nnM, nnB, nnT, nnP, nnE, nnEl, nnEr, nnL, nnLl, nnLr, nnQ, nnQr, nnN, Nat.add_zero, if_false, if_true, Option.bind_some, not_true, not_false_iff, not_true_eq_false, not_false_eq_true, eq_self, Nat.not_lt_zero, z10, z01, or_true, true_or, or_false, false_or, true_and, false_and, hk]) (st_f (by simp (disch := first | omega | decide) only [lt1, nnMl, nnMr, nnAl, nnAr, nnA, nnM, nnB, nnT, nnP, nnE, nnEl, nnEr, nnL, nnLl, nnLr, nnQ, nnQr, nnN, Nat.add_zero, if_false, if_true, Option.bind_some, not_true, not_false_iff, not_true_eq_false, not_false_eq_true, eq_self, Nat.not_lt_zero, z10, z01, or_true, true_or, or_false, false_or, true_and, false_and, h3]) (st_f (by simp (disch := first | omega | decide) only [lt1, nnMl, nnMr, nnAl, nnAr, nnA, nnM, nnB, nnT, nnP, nnE, nnEl, nnEr, nnL, nnLl, nnLr, nnQ, nnQr, nnN, Nat.add_zero, if_false, if_true, Option.bind_some, not_true, not_false_iff, not_true_eq_false, not_false_eq_true, eq_self, Nat.not_lt_zero, z10, z01, or_true, true_or, or_false, false_or, true_and, false_and, h4]) (st_b (holds_x hS hw (by omega) (h t (by omega))) ?_)))
    by_cases q : okTt c FV (4 * k + t)
    · refine st_t (by rw [b01_y q]; decide) ((ih (t + 1) F (by omega) (by omega)).trans ?_)
      congr 1
      by_cases q2 : ∀ t2, t + 1 ≤ t2 → t2 < n → okTt c FV (4 * k + t2)
      · rw [b01_y q2, b01_y (fun t2 p1 p2 => by
          by_cases e : t2 = t
          · rw [e]; exact q
          · exact q2 t2 (by omega) p2)]
      · rw [b01_n q2, b01_n (fun p => q2 (fun t2 p1 p2 => p t2 (by omega) p2))]
    · refine st_f (by rw [b01_n q]; decide) ?_
      rw [b01_n (fun p => q (p t (Nat.le_refl _) (by omega)))]
theorem all_x {FV : Nat → Int32} {who k : Nat} (hS : CSt c S FV who) (hw : who < 8) (hl : RLaw c a0 T L) (hk : k < L) {F : Nat} (hF : 5 < F) : reckoning_allHold F (nn k) (nn who) S = some (b01 (lineOk c FV k)) := by
  have hL := hl.hL
  obtain ⟨⟨n, n4, h36, _, h⟩, _⟩ := hl.ln k hk
  have := allL hS hw (show k < 16 by omega) n4 h36 h n 0 F (by omega) (by omega)
  unfold reckoning_allHold
  refine Eq.trans this ?_
  congr 1
  have ec : cn c 36 k = n := by unfold cn; rw [h36, nnT (by omega)]
  by_cases q : lineOk c FV k
  · rw [b01_y q, b01_y (fun t2 _ p2 => q t2 (by rw [ec]; exact p2))]
  · rw [b01_n q, b01_n (fun p => q (fun t2 p2 => p t2 (Nat.zero_le _) (by rw [ec] at p2; exact p2)))]
theorem CSt.sc {FV : Nat → Int32} {who : Nat} {f e : Nat → Int32} (h : CSt c S FV who) : CSt c (sc (sc S 205 f) 206 e) FV who := by
  obtain ⟨f0, f1, f2, f3, f4, f5, f6⟩ := h
  refine ⟨fun i p1 p2 => by rw [sc_n (by omega), sc_n (by omega)]; exact f0 i p1 p2, ?_, ?_, ?_, ?_, f5, ?_⟩
  · rw [sc_n (by decide), sc_n (by decide)]; exact f1
  · rw [sc_n (by decide), sc_n (by decide)]; exact f2
  · rw [sc_n (by decide), sc_n (by decide)]; exact f3
  · rw [sc_n (by decide), sc_n (by decide)]; exact f4
  · rw [sc_n (by decide), sc_n (by decide)]; exact f6
theorem judL {FV : Nat → Int32} {who : Nat} (hS : CSt c S FV who) (hw : who < 8) (hl : RLaw c a0 T L) {F0 : Nat} (hF0 : 5 < F0) : ∀ m k F f e, k + m = L → m < F → ∃ f2 e2, reckoning_judge_16 F0 F (nn who) (nn k) (sc (sc S 205 f) 206 e) = some (sc (sc S 205 f2) 206 e2) ∧ f2 who = (jg c FV m k (f who) (e who)).1 ∧ e2 who = (jg c FV m k (f who) (e who)).2 ∧ ∀ j, j ≠ who → f2 j = f j ∧ e2 j = e j := by
  have hL := hl.hL
  have hi : inb (nn who) 8 = true := by simp (disch := first | omega | decide) only [lt1, nnMl, nnMr, nnAl, nnAr, nnA, nnM, nnB, nnT, nnP, nnE, nnEl, nnEr, nnL, nnLl, nnLr, nnQ, nnQr, nnN, Nat.add_zero, if_false, if_true, Option.bind_some, not_true, not_false_iff, not_true_eq_false, not_false_eq_true, eq_self, Nat.not_lt_zero, z10, z01, or_true, true_or, or_false, false_or, true_and, false_and, hw]
  intro m
  induction m with
  | zero =>
    intro k F f e hk hF
    obtain ⟨F, rfl⟩ : ∃ F2, F = F2 + 1 := ⟨F - 1, by omega⟩
    have : k = L := by omega
    subst this
    refine ⟨f, e, ?_, rfl, rfl, fun j _ => ⟨rfl, rfl⟩⟩
    unfold reckoning_judge_16
    rw [(hS.sc).1 33 (by decide) (by decide), hl.cL]
    exact st_t (Int32.le_refl _) rfl
  | succ m ih =>
    intro k F f e hk hF
    obtain ⟨F, rfl⟩ : ∃ F2, F = F2 + 1 := ⟨F - 1, by omega⟩
    have h3 : ¬ L ≤ k := by omega
    have h16 : ¬ 16 ≤ k := by omega
    have hk16 : k < 16 := by omega
    have hik : inb (nn k) 16 = true := by simp (disch := first | omega | decide) only [lt1, nnMl, nnMr, nnAl, nnAr, nnA, nnM, nnB, nnT, nnP, nnE, nnEl, nnEr, nnL, nnLl, nnLr, nnQ, nnQr, nnN, Nat.add_zero, if_false, if_true, Option.bind_some, not_true, not_false_iff, not_true_eq_false, not_false_eq_true, eq_self, Nat.not_lt_zero, z10, z01, or_true, true_or, or_false, false_or, true_and, false_and, hk16]
    have pre : ∀ rr, (if b01 (lineOk c FV k) = 0 then reckoning_judge_16 F0 F (nn who) (nn (k + 1)) (sc (sc S 205 f) 206 e) else (if c 34 k = 4 then reckoning_judge_16 F0 F (nn who) (nn (k + 1)) (sc (sc S 205 (up1 f who (f who + c 35 k))) 206 e) else (if c 34 k = 5 then reckoning_judge_16 F0 F (nn who) (nn (k + 1)) (sc (sc S 205 f) 206 (up1 e who (c 35 k))) else some (sc (sc S 205 (up1 f who 0)) 206 e)))) = rr → reckoning_judge_16 F0 (F + 1) (nn who) (nn k) (sc (sc S 205 f) 206 e) = rr := fun rr hr => by
      unfold reckoning_judge_16
      rw [(hS.sc).1 33 (by decide) (by decide), hl.cL, (hS.sc).1 34 (by decide) (by decide), (hS.sc).1 35 (by decide) (by decide), nnT (show k < 2147483648 by omega), nnT (show who < 2147483648 by omega), show nn k + 1 = nn (k + 1) from nnA k 1]
      refine st_f (by simp (disch := first | omega | decide) only [lt1, nnMl, nnMr, nnAl, nnAr, nnA, nnM, nnB, nnT, nnP, nnE, nnEl, nnEr, nnL, nnLl, nnLr, nnQ, nnQr, nnN, Nat.add_zero, if_false, if_true, Option.bind_some, not_true, not_false_iff, not_true_eq_false, not_false_eq_true, eq_self, Nat.not_lt_zero, z10, z01, or_true, true_or, or_false, false_or, true_and, false_and, h3]) (st_f (by simp (disch := first | omega | decide) only [lt1, nnMl, nnMr, nnAl, nnAr, nnA, nnM, nnB, nnT, nnP, nnE, nnEl, nnEr, nnL, nnLl, nnLr, nnQ, nnQr, nnN, Nat.add_zero, if_false, if_true, Option.bind_some, not_true, not_false_iff, not_true_eq_false, not_false_eq_true, eq_self, Nat.not_lt_zero, z10, z01, or_true, true_or, or_false, false_or, true_and, false_and, h16]) (st_b (all_x hS.sc hw hl (by omega) hF0) ?_))
      rw [← hr]
      by_cases q : b01 (lineOk c FV k) = 0
      · rw [if_pos q, if_pos q]
      · rw [if_neg q, if_neg q]
        refine st_w hik ?_
        by_cases q4 : c 34 k = 4
        · rw [if_pos q4, if_pos q4]
          refine st_t hi (st_t hik (st_w hi ?_))
          rw [sc_v (by decide), sc_u, sc_n (show 205 ≠ 206 by decide), sc_e]
        · rw [if_neg q4, if_neg q4]
          by_cases q5 : c 34 k = 5
          · rw [if_pos q5, if_pos q5]
            refine st_t hik (st_w hi ?_)
            rw [sc_u]
          · rw [if_neg q5, if_neg q5]
            refine st_w hi ?_
            rw [sc_v (by decide), sc_u]
    obtain ⟨_, hact, _⟩ := hl.ln k (by omega)
    by_cases q : lineOk c FV k
    · have q0 : ¬ b01 (lineOk c FV k) = 0 := by rw [b01_y q]; decide
      rcases hact with ⟨e4, _⟩ | ⟨e4, _⟩ | ⟨e4, _⟩
      · obtain ⟨f2, e2, r1, r2, r3, r4⟩ := ih (k + 1) F (up1 f who (f who + c 35 k)) e (by omega) (by omega)
        rw [up1_eq] at r2 r3
        refine ⟨f2, e2, pre _ ((if_neg q0).trans ((if_pos e4).trans r1)), ?_, ?_, fun j hj => ⟨(r4 j hj).1.trans (up1_ne hj), (r4 j hj).2⟩⟩
        · rw [jg_4 q e4]; exact r2
        · rw [jg_4 q e4]; exact r3
      · obtain ⟨f2, e2, r1, r2, r3, r4⟩ := ih (k + 1) F f (up1 e who (c 35 k)) (by omega) (by omega)
        rw [up1_eq] at r2 r3
        refine ⟨f2, e2, pre _ ((if_neg q0).trans ((if_neg (by rw [e4]; decide)).trans ((if_pos e4).trans r1))), ?_, ?_, fun j hj => ⟨(r4 j hj).1, (r4 j hj).2.trans (up1_ne hj)⟩⟩
        · rw [jg_5 q e4]; exact r2
        · rw [jg_5 q e4]; exact r3
      · refine ⟨up1 f who 0, e, pre _ ((if_neg q0).trans ((if_neg (by rw [e4]; decide)).trans (if_neg (by rw [e4]; decide)))), ?_, ?_, fun j hj => ⟨up1_ne hj, rfl⟩⟩
        · rw [jg_6 q e4, up1_eq]
        · rw [jg_6 q e4]
    · obtain ⟨f2, e2, r1, r2, r3, r4⟩ := ih (k + 1) F f e (by omega) (by omega)
      refine ⟨f2, e2, pre _ ((if_pos (b01_n q)).trans r1), ?_, ?_, r4⟩
      · rw [jg_n q]; exact r2
      · rw [jg_n q]; exact r3
theorem jud_x {FV : Nat → Int32} {who : Nat} (hS : CSt c S FV who) (hw : who < 8) (hl : RLaw c a0 T L) {F : Nat} (hF : 20 < F) : ∃ f2 e2, reckoning_judge F (nn who) S = some (sc (sc S 205 f2) 206 e2) ∧ f2 who = (jg c FV L 0 0 0).1 ∧ e2 who = (jg c FV L 0 0 0).2 ∧ ∀ j, j ≠ who → f2 j = S 205 j ∧ e2 j = S 206 j := by
  have hL := hl.hL
  have hi : inb (nn who) 8 = true := by simp (disch := first | omega | decide) only [lt1, nnMl, nnMr, nnAl, nnAr, nnA, nnM, nnB, nnT, nnP, nnE, nnEl, nnEr, nnL, nnLl, nnLr, nnQ, nnQr, nnN, Nat.add_zero, if_false, if_true, Option.bind_some, not_true, not_false_iff, not_true_eq_false, not_false_eq_true, eq_self, Nat.not_lt_zero, z10, z01, or_true, true_or, or_false, false_or, true_and, false_and, hw]
  obtain ⟨f2, e2, r1, r2, r3, r4⟩ := judL hS hw hl (F0 := F) (by omega) L 0 F (up1 (S 205) who 0) (up1 (S 206) who 0) (by omega) (by omega)
  rw [up1_eq, up1_eq] at r2 r3
  refine ⟨f2, e2, ?_, r2, r3, fun j hj => ⟨(r4 j hj).1.trans (up1_ne hj), (r4 j hj).2.trans (up1_ne hj)⟩⟩
  unfold reckoning_judge
  rw [nnT (by omega)]
  refine st_w hi (st_w hi ?_)
  have e : up2 (up2 S 205 who 0) 206 who 0 = sc (sc S 205 (up1 (S 205) who 0)) 206 (up1 (S 206) who 0) := by
    funext i j
    unfold up2 sc up1
    by_cases h6 : i = 206
    · subst h6
      by_cases hj : j = who
      · rw [if_pos ⟨rfl, hj⟩, if_pos rfl, if_pos hj]
      · rw [if_neg (fun q => hj q.2), if_neg (fun q => hj q.2), if_pos rfl, if_neg hj]
    · rw [if_neg (fun q => h6 q.1), if_neg h6]
      by_cases h5 : i = 205
      · subst h5
        by_cases hj : j = who
        · rw [if_pos ⟨rfl, hj⟩, if_pos rfl, if_pos hj]
        · rw [if_neg (fun q => hj q.2), if_pos rfl, if_neg hj]
      · rw [if_neg (fun q => h5 q.1), if_neg h5]
  rw [e]
  exact r1
end WL
