section ZR
variable {p : Program} {l : Launch} {e : Env} {R : Room} {s : State} {m : MethodId} {args : Array Value} {below : List Frame} {meth : Method} {c : Code} {H : Heap} {locs : List Loc} {cells slots : Nat} {Q : State → Prop}
variable {cc : ByteArray} {pc nL len : Nat} {ls : Array Slot} {own nm : String} {Ts : List Jvm.Cond} {D : va_G} {B : Nat} {E : Nat → Nat} {cA : Nat → ClassId} {X : Xx} {M : Mm} {L : Lc} {st : List Value} {au : List Nat} {v : Int} {x : Nx} {en : En}
theorem boolfit (y : Int32) : fits .boolean (.int (vp_nar .boolean y)) = true := by
  have h : vp_nar .boolean y = y &&& 1 := rfl
  rw [h, pk_and y (m := 1) 1 (by decide)]
  have h2 : y.toBitVec.toNat % 2 ^ 1 = 0 ∨ y.toBitVec.toNat % 2 ^ 1 = 1 := by omega
  rcases h2 with h2 | h2 <;> rw [h2] <;> decide
theorem bytefit (y : Int32) : fits .byte (.int (vp_nar .byte y)) = true := pk_fb y
set_option maxHeartbeats 4000000 in
/-- one step -/
theorem stepW (hM : Mna) (C : Ctx p R s m args meth c cc nL own nm Ts D B E cA X) (hok : okE own nm cc (pc, en) = true) (h : pcore zft X en pc L st M = some x) (hR : Rel D (zad B E) B cA M H) (hl : lok (zad B E) ls nL L) (hS : va_S (fun q => B ≤ q) s.heap H locs) (hcc : cells ≤ R.cells) (hss : slots ≤ R.slots) (hrc : cells + ((apA M x.2.2.2).1.length - M.1.length) ≤ R.cells) (hrs : slots + (szs (apA M x.2.2.2) - szs M) ≤ R.slots) (K : Kont p l e R s m args below meth c cells slots Q nL D B E cA M x) : W p l e R s m args below meth c H locs cells slots Q (F0 m pc ls (st.map (rl (zad B E)))) := by
  obtain ⟨ins, len, au, v⟩ := en
  obtain ⟨hd, hln, hxd, hnd⟩ := okE_of hok
  have C0 := C
  obtain ⟨hx, hb, hml, hown, hts, hin, hG, hnm, hRf, hRl⟩ := C
  cases ins <;> try (simp only [pcore, reduceCtorEq] at h; done)
  case iconst n =>
    obtain rfl : len = 1 := (hln.resolve_left (show ¬ 1 = 0 by decide)).symm
    cases h; exact lv_iconst hx hb hd rfl (K.here hR hS hl)
  case bipush n =>
    obtain rfl : len = 2 := (hln.resolve_left (show ¬ 2 = 0 by decide)).symm
    cases h; exact lv_bipush hx hb hd rfl (K.here hR hS hl)
  case sipush n =>
    obtain rfl : len = 3 := (hln.resolve_left (show ¬ 3 = 0 by decide)).symm
    cases h; exact lv_sipush hx hb hd rfl (K.here hR hS hl)
  case lconst n =>
    obtain rfl : len = 1 := (hln.resolve_left (show ¬ 1 = 0 by decide)).symm
    cases h; exact lv_lconst hx hb hd rfl (K.here hR hS hl)
  case ldc ix =>
    obtain rfl : len = 2 := (hln.resolve_left (show ¬ 2 = 0 by decide)).symm
    match au, hxd, hnd, h with
    | [], hxd, _, h => cases hxd
    | [0], hxd, _, h => cases hxd
    | [k + 1], hxd, _, h => cases k <;> cases hxd
    | [0, p0], hxd, hnd, h =>
      have hw := hnd _ (List.mem_singleton.mpr rfl)
      have h' : (some (pc + 2, L, .int (Int32.ofInt v) :: st, none) : Option Nx) = some x := h
      cases h'
      exact lv_ldc hx hb hown (C0.word hw.1 hw.2) hd (K.here hR hS hl)
    | 0 :: _ :: _ :: _, hxd, _, h => cases hxd
    | 1 :: q :: [], hxd, hnd, h => cases hxd
    | [1, q, p0], hxd, hnd, h =>
      have h9 : decide (own = "CliffWater$Tokens" ∧ q < 12 ∧ ix = 17 + 2 * q) = true := hxd
      obtain ⟨ho, hq, hix⟩ : own = "CliffWater$Tokens" ∧ q < 12 ∧ ix = 17 + 2 * q := by simpa using h9
      have h' : (some (pc + 2, L, .ref (1010 + q) :: st, none) : Option Nx) = some x := h
      cases h'
      subst ho; subst hix
      have K' := K.here hR hS hl
      have hZ := hG.2.2.2.2.2.2.2.2.2.2.2 q hq
      refine va_ldcS hx hb hown hZ hd ?_
      have e2 : rl (zad B E) (.ref (1010 + q)) = .ref (E (1010 + q)) := by show Value.ref (zad B E (1010 + q)) = _; rw [zad, if_neg (by omega)]
      rw [List.map_cons, e2] at K'
      exact K'
    | 1 :: _ :: _ :: _ :: _, hxd, _, h => cases hxd
    | (k + 2) :: _ :: _, hxd, _, h => cases h
  case ldc_w ix =>
    obtain rfl : len = 3 := (hln.resolve_left (show ¬ 3 = 0 by decide)).symm
    obtain ⟨p0, rfl⟩ : ∃ p0, au = [p0] := by
      have : au.length = 1 := by simpa [xd] using hxd
      match au, this with
      | [p0], _ => exact ⟨p0, rfl⟩
    have hw := hnd _ (List.mem_singleton.mpr rfl)
    cases h; exact lv_ldcw hx hb hown (C0.word hw.1 hw.2) hd (K.here hR hS hl)
  case ldc2_w ix =>
    obtain rfl : len = 3 := (hln.resolve_left (show ¬ 3 = 0 by decide)).symm
    obtain ⟨p0, rfl⟩ : ∃ p0, au = [p0] := by
      have : au.length = 1 := by simpa [xd] using hxd
      match au, this with
      | [p0], _ => exact ⟨p0, rfl⟩
    have hw := hnd _ (List.mem_singleton.mpr rfl)
    cases h; exact lv_ldc2 hx hb hown (C0.word hw.1 hw.2) hd (K.here hR hS hl)
  case iload_n k =>
    obtain rfl : len = 1 := (hln.resolve_left (show ¬ 1 = 0 by decide)).symm
    exact c_ldI (fun a ha k => lv_iload_n hx hb hd rfl ha k) h hR hl hS K
  case iload i =>
    obtain rfl : len = 2 := (hln.resolve_left (show ¬ 2 = 0 by decide)).symm
    exact c_ldI (fun a ha k => lv_iload hx hb hd ha k) h hR hl hS K
  case lload_n k =>
    obtain rfl : len = 1 := (hln.resolve_left (show ¬ 1 = 0 by decide)).symm
    exact c_ldL (fun a ha k => lv_lload_n hx hb hd rfl ha k) h hR hl hS K
  case lload i =>
    obtain rfl : len = 2 := (hln.resolve_left (show ¬ 2 = 0 by decide)).symm
    exact c_ldL (fun a ha k => lv_lload hx hb hd ha k) h hR hl hS K
  case aload_n k =>
    obtain rfl : len = 1 := (hln.resolve_left (show ¬ 1 = 0 by decide)).symm
    exact c_ldA (fun a ha k => lv_aload_n hx hb hd rfl ha k) (fun ha k => lv_aload_nN hx hb hd rfl ha k) h hR hl hS K
  case aload i =>
    obtain rfl : len = 2 := (hln.resolve_left (show ¬ 2 = 0 by decide)).symm
    exact c_ldA (fun a ha k => lv_aload hx hb hd ha k) (fun ha k => lv_aloadN hx hb hd ha k) h hR hl hS K
  case istore_n k =>
    obtain rfl : len = 1 := (hln.resolve_left (show ¬ 1 = 0 by decide)).symm
    have hi := (stI_inv h).choose_spec.choose_spec.2.1
    exact c_stI (fun a r kk => lv_istore_n hx hb hd rfl (lvl_has hl) (by rw [← hl.2.2.1]; exact hi) rfl kk) h hR hl hS K
  case istore i =>
    obtain rfl : len = 2 := (hln.resolve_left (show ¬ 2 = 0 by decide)).symm
    have hi := (stI_inv h).choose_spec.choose_spec.2.1
    exact c_stI (fun a r kk => lv_istore hx hb hd (lvl_has hl) (by rw [← hl.2.2.1]; exact hi) rfl kk) h hR hl hS K
  case lstore_n k =>
    obtain rfl : len = 1 := (hln.resolve_left (show ¬ 1 = 0 by decide)).symm
    have hi := (stL_inv h).choose_spec.choose_spec.2.1
    exact c_stL (fun a r kk => lv_lstore_n hx hb hd rfl (lvl_has hl) (by rw [← hl.2.2.1]; exact hi) rfl kk) h hR hl hS K
  case lstore i =>
    obtain rfl : len = 2 := (hln.resolve_left (show ¬ 2 = 0 by decide)).symm
    have hi := (stL_inv h).choose_spec.choose_spec.2.1
    exact c_stL (fun a r kk => lv_lstore hx hb hd (lvl_has hl) (by rw [← hl.2.2.1]; exact hi) rfl kk) h hR hl hS K
  case astore_n k =>
    obtain rfl : len = 1 := (hln.resolve_left (show ¬ 1 = 0 by decide)).symm
    have hi := (stA_inv h).1
    exact c_stA (fun a r kk => lv_astore_n hx hb hd rfl (lvl_has hl) (by rw [← hl.2.2.1]; exact hi) rfl kk) (fun r kk => lv_astore_nN hx hb hd rfl (lvl_has hl) (by rw [← hl.2.2.1]; exact hi) rfl kk) h hR hl hS K
  case astore i =>
    obtain rfl : len = 2 := (hln.resolve_left (show ¬ 2 = 0 by decide)).symm
    have hi := (stA_inv h).1
    exact c_stA (fun a r kk => lv_astore hx hb hd (lvl_has hl) (by rw [← hl.2.2.1]; exact hi) rfl kk) (fun r kk => lv_astoreN hx hb hd (lvl_has hl) (by rw [← hl.2.2.1]; exact hi) rfl kk) h hR hl hS K
  case iinc i n =>
    obtain rfl : len = 3 := (hln.resolve_left (show ¬ 3 = 0 by decide)).symm
    simp only [pcore] at h
    split at h
    · rename_i y hy
      cases h
      obtain ⟨k, hk⟩ := List.getElem?_of_mem (lvl_mem (f := zad B E) hy)
      have hi : i < nL := by rw [← hl.2.2.1]; exact (List.getElem?_eq_some_iff.mp hy).1
      exact lv_iinc hx hb hd (lvl_has hl) hk rfl hi rfl fun ls' h' => K.here hR hS (lok_st1 (v := .int (y + Int32.ofInt n)) hl.2.2.1 hi h')
    · cases h
  case iadd =>
    obtain rfl : len = 1 := (hln.resolve_left (show ¬ 1 = 0 by decide)).symm
    exact c_i2 (f := fun x y => some (x + y)) (fun a b z r hz k => by cases hz; exact lv_iadd hx hb hd k) h hR hl hS K
  case isub =>
    obtain rfl : len = 1 := (hln.resolve_left (show ¬ 1 = 0 by decide)).symm
    exact c_i2 (f := fun x y => some (x - y)) (fun a b z r hz k => by cases hz; exact lv_isub hx hb hd k) h hR hl hS K
  case imul =>
    obtain rfl : len = 1 := (hln.resolve_left (show ¬ 1 = 0 by decide)).symm
    exact c_i2 (f := fun x y => some (x * y)) (fun a b z r hz k => by cases hz; exact lv_imul hx hb hd k) h hR hl hS K
  case iand =>
    obtain rfl : len = 1 := (hln.resolve_left (show ¬ 1 = 0 by decide)).symm
    exact c_i2 (f := fun x y => some (x &&& y)) (fun a b z r hz k => by cases hz; exact lv_iand hx hb hd k) h hR hl hS K
  case ishl =>
    obtain rfl : len = 1 := (hln.resolve_left (show ¬ 1 = 0 by decide)).symm
    exact c_i2 (f := fun x y => some (x <<< (y &&& 31))) (fun a b z r hz k => by cases hz; exact lv_ishl hx hb hd k) h hR hl hS K
  case ishr =>
    obtain rfl : len = 1 := (hln.resolve_left (show ¬ 1 = 0 by decide)).symm
    exact c_i2 (f := fun x y => some (x >>> (y &&& 31))) (fun a b z r hz k => by cases hz; exact lv_ishr hx hb hd k) h hR hl hS K
  case iushr =>
    obtain rfl : len = 1 := (hln.resolve_left (show ¬ 1 = 0 by decide)).symm
    exact c_i2 (f := fun x y => some (x.toUInt32 >>> (y.toUInt32 &&& Int32.toUInt32 31)).toInt32) (fun a b z r hz k => by cases hz; exact lv_iushr hx hb hd rfl k) h hR hl hS K
  case idiv =>
    obtain rfl : len = 1 := (hln.resolve_left (show ¬ 1 = 0 by decide)).symm
    exact c_i2 (f := fun x y => if y = 0 then none else some (x / y)) (fun a b z r hz k => by
      split at hz
      · cases hz
      · rename_i h0; cases hz; exact lv_idiv hx hb hd h0 k) h hR hl hS K
  case irem =>
    obtain rfl : len = 1 := (hln.resolve_left (show ¬ 1 = 0 by decide)).symm
    exact c_i2 (f := fun x y => if y = 0 then none else some (x - x / y * y)) (fun a b z r hz k => by
      split at hz
      · cases hz
      · rename_i h0; cases hz; exact lv_irem hx hb hd h0 k) h hR hl hS K
  case ineg =>
    obtain rfl : len = 1 := (hln.resolve_left (show ¬ 1 = 0 by decide)).symm
    exact c_i1 (f := fun x => -x) (fun a r k => lv_ineg hx hb hd k) h hR hl hS K
  case i2b =>
    obtain rfl : len = 1 := (hln.resolve_left (show ¬ 1 = 0 by decide)).symm
    exact c_i1 (f := fun x => x.toInt8.toInt32) (fun a r k => lv_i2b hx hb hd rfl k) h hR hl hS K
  case i2c =>
    obtain rfl : len = 1 := (hln.resolve_left (show ¬ 1 = 0 by decide)).symm
    exact c_i1 (f := fun x => (x.toUInt32 % 65536).toInt32) (fun a r k => lv_i2c hx hb hd rfl k) h hR hl hS K
  case i2l =>
    obtain rfl : len = 1 := (hln.resolve_left (show ¬ 1 = 0 by decide)).symm
    simp only [pcore] at h
    split at h
    · cases h; exact lv_i2l hx hb hd rfl (K.here hR hS hl)
    · cases h
  case l2i =>
    obtain rfl : len = 1 := (hln.resolve_left (show ¬ 1 = 0 by decide)).symm
    simp only [pcore] at h
    split at h
    · cases h; exact lv_l2i hx hb hd rfl (K.here hR hS hl)
    · cases h
  case ladd =>
    obtain rfl : len = 1 := (hln.resolve_left (show ¬ 1 = 0 by decide)).symm
    exact c_l2 (f := fun x y => some (x + y)) (fun a b z r hz k => by cases hz; exact lv_ladd hx hb hd k) h hR hl hS K
  case lsub =>
    obtain rfl : len = 1 := (hln.resolve_left (show ¬ 1 = 0 by decide)).symm
    exact c_l2 (f := fun x y => some (x - y)) (fun a b z r hz k => by cases hz; exact lv_lsub hx hb hd k) h hR hl hS K
  case lmul =>
    obtain rfl : len = 1 := (hln.resolve_left (show ¬ 1 = 0 by decide)).symm
    exact c_l2 (f := fun x y => some (x * y)) (fun a b z r hz k => by cases hz; exact lv_lmul hx hb hd k) h hR hl hS K
  case ldiv =>
    obtain rfl : len = 1 := (hln.resolve_left (show ¬ 1 = 0 by decide)).symm
    exact c_l2 (f := fun x y => if y = 0 then none else some (x / y)) (fun a b z r hz k => by
      split at hz
      · cases hz
      · rename_i h0; cases hz; exact lv_ldiv hx hb hd h0 k) h hR hl hS K
  case lrem =>
    obtain rfl : len = 1 := (hln.resolve_left (show ¬ 1 = 0 by decide)).symm
    exact c_l2 (f := fun x y => if y = 0 then none else some (x - x / y * y)) (fun a b z r hz k => by
      split at hz
      · cases hz
      · rename_i h0; cases hz; exact lv_lrem hx hb hd h0 k) h hR hl hS K
  case lcmp =>
    obtain rfl : len = 1 := (hln.resolve_left (show ¬ 1 = 0 by decide)).symm
    simp only [pcore] at h
    split at h
    · cases h; exact W.lcmp hx hb hd (K.here hR hS hl)
    · cases h
  case dup =>
    obtain rfl : len = 1 := (hln.resolve_left (show ¬ 1 = 0 by decide)).symm
    simp only [pcore] at h
    split at h
    · split at h
      · rename_i hc; cases h; exact lv_dup hx hb hd (by rw [rl_cat]; exact hc) (K.here hR hS hl)
      · cases h
    · cases h
  case pop =>
    obtain rfl : len = 1 := (hln.resolve_left (show ¬ 1 = 0 by decide)).symm
    simp only [pcore] at h
    split at h
    · split at h
      · rename_i hc; cases h; exact lv_pop hx hb hd (by rw [rl_cat]; exact hc) (K.here hR hS hl)
      · cases h
    · cases h
  case dup_x1 =>
    obtain rfl : len = 1 := (hln.resolve_left (show ¬ 1 = 0 by decide)).symm
    simp only [pcore] at h
    split at h
    · split at h
      · rename_i hc; cases h; exact lv_dup_x1 hx hb hd (by rw [rl_cat]; exact hc.1) (by rw [rl_cat]; exact hc.2) (K.here hR hS hl)
      · cases h
    · cases h
  case dup2 =>
    obtain rfl : len = 1 := (hln.resolve_left (show ¬ 1 = 0 by decide)).symm
    simp only [pcore] at h
    split at h
    · split at h
      · rename_i hc; cases h; exact lv_dup2_11 hx hb hd (by rw [rl_cat]; exact hc.1) (by rw [rl_cat]; exact hc.2) (K.here hR hS hl)
      · cases h
    · cases h
  case goto off =>
    obtain rfl : len = 3 := (hln.resolve_left (show ¬ 3 = 0 by decide)).symm
    exact c_jmp (fun t ht k => lv_goto hx hb hd ht k) h hR hl hS K
  case if_icmp cd off =>
    obtain rfl : len = 3 := (hln.resolve_left (show ¬ 3 = 0 by decide)).symm
    simp only [pcore] at h
    split at h
    · refine c_br (fun t ht kt kf => ?_) h hR hl hS K
      cases cd
      · exact lv_icmp_eq hx hb hd ht (fun q => kt (decide_eq_true q)) (fun q => kf (decide_eq_false q))
      · exact lv_icmp_ne hx hb hd ht (fun q => kt (decide_eq_true q)) (fun q => kf (decide_eq_false (fun h => h q)))
      · exact lv_icmp_lt hx hb hd ht (fun q => kt (decide_eq_true q)) (fun q => kf (decide_eq_false q))
      · exact lv_icmp_ge hx hb hd ht (fun q => kt (decide_eq_true q)) (fun q => kf (decide_eq_false q))
      · exact lv_icmp_gt hx hb hd ht (fun q => kt (decide_eq_true q)) (fun q => kf (decide_eq_false q))
      · exact lv_icmp_le hx hb hd ht (fun q => kt (decide_eq_true q)) (fun q => kf (decide_eq_false q))
    · cases h
  case ifCond cd off =>
    obtain rfl : len = 3 := (hln.resolve_left (show ¬ 3 = 0 by decide)).symm
    simp only [pcore] at h
    split at h
    · refine c_br (fun t ht kt kf => ?_) h hR hl hS K
      cases cd
      · exact lv_if_eq hx hb hd ht (fun q => kt (decide_eq_true q)) (fun q => kf (decide_eq_false q))
      · exact lv_if_ne hx hb hd ht (fun q => kt (decide_eq_true q)) (fun q => kf (decide_eq_false (fun h => h q)))
      · exact lv_if_lt hx hb hd ht (fun q => kt (decide_eq_true q)) (fun q => kf (decide_eq_false q))
      · exact lv_if_ge hx hb hd ht (fun q => kt (decide_eq_true q)) (fun q => kf (decide_eq_false q))
      · exact lv_if_gt hx hb hd ht (fun q => kt (decide_eq_true q)) (fun q => kf (decide_eq_false q))
      · exact lv_if_le hx hb hd ht (fun q => kt (decide_eq_true q)) (fun q => kf (decide_eq_false q))
    · cases h
  case ifnonnull off =>
    obtain rfl : len = 3 := (hln.resolve_left (show ¬ 3 = 0 by decide)).symm
    simp only [pcore] at h
    split at h
    · exact c_jmp (fun t ht k => lv_ifnonnull hx hb hd ht k) h hR hl hS K
    · cases h; exact lv_ifnonnullN hx hb hd (K.here hR hS hl)
    · cases h
  case tableswitch d lo hi offs =>
    simp only [pcore, sw] at h
    split at h
    case h_2 => cases h
    split at h
    case h_2 => cases h
    rename_i off hoff
    unfold twf at hoff
    split at hoff
    · rename_i hout
      cases hoff
      exact c_jmp (fun t ht k => lv_tableOut hx hb hd hout ht k) h hR hl hS K
    · rename_i hin'
      exact c_jmp (fun t ht k => lv_tableIn hx hb hd (fun q => hin' (Or.inl q)) (fun q => hin' (Or.inr q)) hoff ht k) h hR hl hS K
  case lookupswitch d ps =>
    simp only [pcore, sw] at h
    split at h
    case h_2 => cases h
    split at h
    case h_2 => cases h
    rename_i off hoff
    unfold lwf at hoff
    split at hoff
    · rename_i hp
      exact c_jmp (fun t ht k => lv_lookup hx hb hd hp (Option.some.inj hoff) ht k) h hR hl hS K
    · cases hoff
  case getfield ix => exact c_get C0 hok h hR hl hS K
  case putfield ix => exact c_put C0 hok h hR hl hS K
  case getstatic ix =>
    simp only [pcore] at h
    split at h
    · exact c_gst C0 hok h hR hl hS K
    · cases h
  case iaload =>
    obtain rfl : len = 1 := (hln.resolve_left (show ¬ 1 = 0 by decide)).symm
    exact c_rldI C0 hd h hR hl hS K
  case baload =>
    obtain rfl : len = 1 := (hln.resolve_left (show ¬ 1 = 0 by decide)).symm
    exact c_rldB C0 hd h hR hl hS K
  case aaload =>
    obtain rfl : len = 1 := (hln.resolve_left (show ¬ 1 = 0 by decide)).symm
    exact c_ald C0 hd h hR hl hS K
  case iastore =>
    obtain rfl : len = 1 := (hln.resolve_left (show ¬ 1 = 0 by decide)).symm
    refine c_rst (X := X) (ok := fun t => t == 0) (g := fun _ y => y) (cond := fun _ => True) (fun t ht => by rw [show t = 0 from by simpa using ht]; omega) (fun t y ht => by
      have : t = 0 := by simpa using ht
      exact ⟨fun e => by omega, fun e => by omega⟩) (fun t a n i y r ht hc hv kk => ?_) h hR hl hS K
    obtain rfl : t = 0 := by simpa using ht
    exact W.iast hx hb hc ((hG.1.2 0 _ rfl).1 n (fun j => .int (M.2 a j))) (fun q => by cases q) (by show ¬ (i < 0 ∨ (arrV _ _ _).slots.size ≤ _); rw [arrV_size]; exact hv) rfl rfl hd kk
  case bastore =>
    obtain rfl : len = 1 := (hln.resolve_left (show ¬ 1 = 0 by decide)).symm
    refine c_rst (X := X) (ok := fun t => t == 1 || t == 2) (g := fun t x => if t = 1 then vp_nar .byte x else vp_nar .boolean x) (cond := fun _ => True) (fun t ht => by rcases (show t = 1 ∨ t = 2 from by simpa using ht) with rfl | rfl <;> omega) (fun t y ht => ⟨fun e => by rw [if_pos e]; exact bytefit y, fun e => by rw [if_neg (by omega)]; exact boolfit y⟩) (fun t a n i y r ht hc hv kk => ?_) h hR hl hS K
    have ht' : t = 1 ∨ t = 2 := by simpa using ht
    rcases ht' with rfl | rfl
    · exact W.bast hx hb hc ((hG.1.2 1 _ rfl).1 n (fun j => .int (M.2 a j))) (fun q => by cases q) (by show ¬ (i < 0 ∨ (arrV _ _ _).slots.size ≤ _); rw [arrV_size]; exact hv) rfl rfl hd kk
    · exact W.zast hx hb hc ((hG.1.2 2 _ rfl).1 n (fun j => .int (M.2 a j))) (fun q => by cases q) (by show ¬ (i < 0 ∨ (arrV _ _ _).slots.size ≤ _); rw [arrV_size]; exact hv) rfl rfl hd kk
  case aastore =>
    obtain rfl : len = 1 := (hln.resolve_left (show ¬ 1 = 0 by decide)).symm
    have h9 : decide (au = [8]) = true := hxd
    obtain rfl : au = [8] := by simpa using h9
    exact c_ast C0 hd h hR hl hS K
  case arraylength =>
    obtain rfl : len = 1 := (hln.resolve_left (show ¬ 1 = 0 by decide)).symm
    exact c_aln C0 hd h hR hl hS K
  case newarray at' =>
    simp only [pcore] at h
    split at h
    · exact c_newa (Or.inl ⟨rfl, rfl⟩) C0 hok h hR hl hS hrc hrs K
    · exact c_newa (Or.inr (Or.inl ⟨rfl, rfl⟩)) C0 hok h hR hl hS hrc hrs K
    · exact c_newa (Or.inr (Or.inr ⟨rfl, rfl⟩)) C0 hok h hR hl hS hrc hrs K
    · cases h
  case anewarray ix => exact c_newq C0 hok h hR hl hS hrc hrs K
  case multianewarray ix d =>
    simp only [pcore] at h
    split at h
    · rename_i hd2
      subst hd2
      exact hM C0 hok h hR hl hS hrc hrs K
    · cases h
  case new ix => exact c_new C0 hok h hR hl hS hrc hrs K
  case invokespecial ix =>
    obtain rfl : len = 3 := (hln.resolve_left (show ¬ 3 = 0 by decide)).symm
    simp only [pcore] at h
    split at h
    case h_2 => cases h
    rename_i tl a r
    split at h
    case isFalse => cases h
    rename_i h8
    cases h
    match tl, hxd, hnd with
    | [], hxd, _ => cases hxd
    | [_], hxd, _ => cases hxd
    | [_, _], hxd, _ => cases hxd
    | [_, _, _, _], hxd, _ => cases hxd
    | [_, _, _, _, _], hxd, _ => cases hxd
    | [_, mid, n, _, _, _], hxd, _ =>
      obtain ⟨_, _, _, h9, _⟩ := xd_I hxd
      omega
    | _ :: _ :: _ :: _ :: _ :: _ :: _ :: _, hxd, _ => cases hxd
    | [p1, p2, p3], hxd, hnd =>
      have key : ∀ q, q ∈ [((p1, .methodLink own ix objectInit) : Nat × Jvm.Cond), (p2, .instanceMethod objectInit), (p3, .code objectInit ⟨#[0xb1]⟩ 1 none)] → q.2.before args s = true := fun q hq => C0.word (hnd q hq).1 (hnd q hq).2
      have hr := cat8_room (f := zad B E) h8
      exact W.objInit hx hb hown (key (p1, .methodLink own ix objectInit) (by simp)) (key (p2, .instanceMethod objectInit) (by simp)) (key (p3, .code objectInit ⟨#[0xb1]⟩ 1 none) (by simp)) rfl (by rw [hml]; exact hl.1) rfl hd hRf (by show 2 * 0 + _ + _ ≤ _; omega) (K.here hR hS hl)
  case invokestatic ix =>
    simp only [pcore] at h
    split at h
    · split at h
      · exact c_prim C0 hok hcc hss h hR hl hS K
      · cases h
    · cases h
end ZR
