section ZQ
variable {p : Program} {l : Launch} {e : Env} {R : Room} {s : State} {m : MethodId} {args : Array Value} {below : List Frame} {meth : Method} {c : Code} {H : Heap} {locs : List Loc} {cells slots : Nat} {Q : State → Prop}
variable {cc : ByteArray} {pc nL len : Nat} {ls : Array Slot} {own nm : String} {Ts : List Jvm.Cond} {D : va_G} {B : Nat} {E : Nat → Nat} {cA : Nat → ClassId} {X : Xx} {M : Mm} {L : Lc} {st : List Value} {au : List Nat} {v : Int} {x : Nx}
theorem cat8_room {r : List Value} {f : Nat → Nat} (h : cat8 r = true) : ((r.map (rl f)).map fun v => v.category).sum ≤ 8 := by
  have : (r.map (rl f)).map (fun v => v.category) = r.map (fun v => v.category) := by
    rw [List.map_map]
    exact List.map_congr_left fun a _ => rl_cat f a
  rw [this]
  simpa [cat8] using h
theorem xd_S {ix k mid n rc p1 p2 p3 : Nat} (h : xd own nm (pc, .invokestatic ix, len, [k, mid, n, rc, p1, p2, p3], v) = true) : ∃ mi, mtl[mid]? = some mi ∧ mid < 240 ∧ (k = 11 ∨ k = 14) ∧ (parseMethodDescriptor mi.1.desc).map (fun d => d.parameters.length) = some n := by
  have h' : (match mtl[mid]? with | some mi => decide (mid < 240 ∧ (k = 11 ∨ k = 14) ∧ (parseMethodDescriptor mi.1.desc).map (fun d => d.parameters.length) = some n) | none => false) = true := h
  split at h'
  · rename_i mi hm
    exact ⟨mi, hm, by simpa using h'⟩
  · cases h'
theorem xd_I {ix k mid n rc p1 p2 p3 : Nat} (h : xd own nm (pc, .invokespecial ix, len, [k, mid, n, rc, p1, p2, p3], v) = true) : ∃ mi, mtl[mid]? = some mi ∧ mid < 240 ∧ (k = 12 ∨ k = 15) ∧ mi.1.name = "<init>" ∧ (parseMethodDescriptor mi.1.desc).map (fun d => d.parameters.length + 1) = some n ∧ mi.2.2.2.1 = none := by
  have h' : (match mtl[mid]? with | some mi => decide (mid < 240 ∧ (k = 12 ∨ k = 15) ∧ mi.1.name = "<init>" ∧ (parseMethodDescriptor mi.1.desc).map (fun d => d.parameters.length + 1) = some n ∧ mi.2.2.2.1 = none) | none => false) = true := by cases k <;> exact h
  split at h'
  · rename_i mi hm
    exact ⟨mi, hm, by simpa using h'⟩
  · cases h'
theorem xd_V {ix k mid n rc p1 p2 p3 p4 : Nat} (h : xd own nm (pc, .invokevirtual ix, len, [k, mid, n, rc, p1, p2, p3, p4], v) = true) : ∃ mi, mtl[mid]? = some mi ∧ mid < 240 ∧ (k = 10 ∨ k = 13) ∧ (if rc = 40 then some "java/lang/String" else (zcl[rc]?).map (·.1)) = some mi.1.cls ∧ (parseMethodDescriptor mi.1.desc).map (fun d => d.parameters.length + 1) = some n := by
  have h' : (match mtl[mid]? with | some mi => decide (mid < 240 ∧ (k = 10 ∨ k = 13) ∧ (if rc = 40 then some "java/lang/String" else (zcl[rc]?).map (·.1)) = some mi.1.cls ∧ (parseMethodDescriptor mi.1.desc).map (fun d => d.parameters.length + 1) = some n) | none => false) = true := h
  split at h'
  · rename_i mi hm
    exact ⟨mi, hm, by simpa using h'⟩
  · cases h'
theorem nfw : nativeFrameWords "java/lang/System" "arraycopy" 5 + 11 ≤ 52 := by decide +kernel
theorem c_prim {ix k : Nat} {tl : List Nat} (C : Ctx p R s m args meth c cc nL own nm Ts D B E cA X) (hok : okE own nm cc (pc, .invokestatic ix, len, k :: tl, v) = true) (hcc : cells ≤ R.cells) (hss : slots ≤ R.slots) (h : prim X pc k L st M = some x) (hR : Rel D (zad B E) B cA M H) (hl : lok (zad B E) ls nL L) (hS : va_S (fun q => B ≤ q) s.heap H locs) (K : Kont p l e R s m args below meth c cells slots Q nL D B E cA M x) : W p l e R s m args below meth c H locs cells slots Q (F0 m pc ls (st.map (rl (zad B E)))) := by
  obtain ⟨hd, hln, hxd, hnd⟩ := okE_of hok
  have hlen : len = 3 := (hln.resolve_left (show ¬ 3 = 0 by decide)).symm
  subst hlen
  have C0 := C
  obtain ⟨hx, hb, hml, hown, hts, hin, hG, hnm, hRf, hRl⟩ := C
  have hmls : c.maxLocals = ls.size := by rw [hml, hl.1]
  unfold prim at h
  split at h
  · rename_i y z r
    split at h
    case isFalse => cases h
    rename_i h8
    cases h
    match tl, hxd, hnd with
    | [], hxd, _ => cases hxd
    | [_], hxd, _ => cases hxd
    | [_, _], hxd, _ => cases hxd
    | [_, _, _], hxd, _ => cases hxd
    | [_, _, _, _, _], hxd, _ => cases hxd
    | [_, mid, n, _, _, _], hxd, _ =>
      obtain ⟨_, _, _, h9, _⟩ := xd_S hxd
      omega
    | _ :: _ :: _ :: _ :: _ :: _ :: _ :: _, hxd, _ => cases hxd
    | [p1, p2, p3, p4], hxd, hnd =>
      have key : ∀ q, q ∈ [((p1, .methodLink own ix Lib.Math.min.name) : Nat × Jvm.Cond), (p2, .static Lib.Math.min.name), (p3, .initialized "java/lang/Math"), (p4, .code Lib.Math.min.name Lib.Math.min.code 2 (some .int))] → q.2.before args s = true := fun q hq => C0.word (hnd q hq).1 (hnd q hq).2
      have hr := cat8_room (f := zad B E) h8
      exact va_mmin hx hb hmls hown (key (p1, .methodLink own ix Lib.Math.min.name) (by simp)) (key (p2, .static Lib.Math.min.name) (by simp)) (key (p3, .initialized "java/lang/Math") (by simp)) (key (p4, .code Lib.Math.min.name Lib.Math.min.code 2 (some .int)) (by simp)) hRf (by omega) hcc hss hd (K.here hR hS hl)
  · rename_i y z r
    split at h
    case isFalse => cases h
    rename_i h8
    cases h
    match tl, hxd, hnd with
    | [], hxd, _ => cases hxd
    | [_], hxd, _ => cases hxd
    | [_, _], hxd, _ => cases hxd
    | [_, _, _], hxd, _ => cases hxd
    | [_, _, _, _, _], hxd, _ => cases hxd
    | [_, mid, n, _, _, _], hxd, _ =>
      obtain ⟨_, _, _, h9, _⟩ := xd_S hxd
      omega
    | _ :: _ :: _ :: _ :: _ :: _ :: _ :: _, hxd, _ => cases hxd
    | [p1, p2, p3, p4], hxd, hnd =>
      have key : ∀ q, q ∈ [((p1, .methodLink own ix Lib.Math.max.name) : Nat × Jvm.Cond), (p2, .static Lib.Math.max.name), (p3, .initialized "java/lang/Math"), (p4, .code Lib.Math.max.name Lib.Math.max.code 2 (some .int))] → q.2.before args s = true := fun q hq => C0.word (hnd q hq).1 (hnd q hq).2
      have hr := cat8_room (f := zad B E) h8
      exact va_mmax hx hb hmls hown (key (p1, .methodLink own ix Lib.Math.max.name) (by simp)) (key (p2, .static Lib.Math.max.name) (by simp)) (key (p3, .initialized "java/lang/Math") (by simp)) (key (p4, .code Lib.Math.max.name Lib.Math.max.code 2 (some .int)) (by simp)) hRf (by omega) hcc hss hd (K.here hR hS hl)
  · rename_i n dp b sp a r
    split at h
    case h_2 => cases h
    rename_i t na ra t2 nb rb hsa hsb
    split at h
    case isFalse => cases h
    rename_i hc
    obtain ⟨ht, rfl, ha, hbb, h1, h2, h3, h4, h5, h8⟩ := hc
    cases h
    match tl, hxd, hnd with
    | [], hxd, _ => cases hxd
    | [_], hxd, _ => cases hxd
    | [_, _], hxd, _ => cases hxd
    | [_, _, _], hxd, _ => cases hxd
    | [_, _, _, _, _], hxd, _ => cases hxd
    | [_, mid, n, _, _, _], hxd, _ =>
      obtain ⟨_, _, _, h9, _⟩ := xd_S hxd
      omega
    | _ :: _ :: _ :: _ :: _ :: _ :: _ :: _, hxd, _ => cases hxd
    | [p1, p2, p3, p4], hxd, hnd =>
      have key : ∀ q, q ∈ [((p1, .methodLink own ix arraycopyName) : Nat × Jvm.Cond), (p2, .native arraycopyName), (p3, .static arraycopyName), (p4, .initialized "java/lang/System")] → q.2.before args s = true := fun q hq => C0.word (hnd q hq).1 (hnd q hq).2
      have hr := cat8_room (f := zad B E) h8
      have hea := wld_get (f := zad B E) (B := B) (cA := cA) hsa
      have heb := wld_get (f := zad B E) (B := B) (cA := cA) hsb
      rw [ent_low ht] at hea heb
      show W _ _ _ _ _ _ _ _ _ _ _ _ _ _ _ (F0 m pc ls (.int n :: .int dp :: .ref (zad B E b) :: .int sp :: .ref (zad B E a) :: r.map (rl (zad B E))))
      rw [show zad B E a = B + a from if_pos ha, show zad B E b = B + b from if_pos hbb]
      have hty : ∃ ty, refKind ty = false ∧ (tyl cA)[t2]? = some (cA t2, ty) ∧ ∀ j, fits ty (.int (M.2 a j)) = true := by
        have h03 : t2 = 0 ∨ t2 = 1 ∨ t2 = 2 := by omega
        rcases h03 with rfl | rfl | rfl
        · exact ⟨.int, rfl, rfl, fun _ => rfl⟩
        · exact ⟨.byte, rfl, rfl, fun j => hR.2.2.2.2.1 a na ra hsa j⟩
        · exact ⟨.boolean, rfl, rfl, fun j => hR.2.2.2.2.2 a na ra hsa j⟩
      obtain ⟨ty, hprim, hty, hfit⟩ := hty
      have nn : ∀ z : Int32, ¬ z < 0 → z.toInt = (z.toNatClampNeg : Int) := by
        intro z hz
        have hz0 : (0 : Int) ≤ z.toInt := by
          have := Int32.not_lt.mp hz
          simpa using Int32.le_iff_toInt_le.mp this
        show z.toInt = ((z.toInt.toNat : Nat) : Int)
        omega
      intro T hT X'
      have hc0 : H[B + a]? = some (vp_cell (cA t2) (na, .inl (M.2 a))) := hR.1 a _ hea
      have hc1 : H[B + b]? = some (vp_cell (cA t2) (nb, .inl (M.2 b))) := hR.1 b _ heb
      obtain ⟨-, k0, hk0, cm0, hkk0⟩ := (hG.1.2 t2 _ hty).1 na (fun j => .int (M.2 a j))
      obtain ⟨-, k1, hk1, cm1, hkk1⟩ := (hG.1.2 t2 _ hty).1 nb (fun j => .int (M.2 b j))
      obtain ⟨vm', X1, step⟩ := X'.arraycopy hx hown (key (p1, .methodLink own ix arraycopyName) (by simp)) (key (p2, .native arraycopyName) (by simp)) (key (p3, .static arraycopyName) (by simp)) (key (p4, .initialized "java/lang/System") (by simp)) (src := B + a) (dst := B + b) (cs := vp_cell (cA t2) (na, .inl (M.2 a))) (cd := vp_cell (cA t2) (nb, .inl (M.2 b))) (srcPos := sp) (destPos := dp) (n := n) (by rw [hT]; exact hc0) (by rw [hT]; exact hc1)
        (fun _ h => by cases h) (fun _ h => by cases h) (fun h => by cases h) (fun h => by cases h) hk0 hk1 hkk0 hkk1 (by simp [hprim]) h1 h2 h3
        (by rw [nn sp h1, nn n h3]; show ¬ _ > ((arrV (cA t2) na (fun j => .int (M.2 a j))).slots.size : Int); rw [arrV_size]; omega)
        (by rw [nn dp h2, nn n h3]; show ¬ _ > ((arrV (cA t2) nb (fun j => .int (M.2 b j))).slots.size : Int); rw [arrV_size]; omega)
        (fun vm₁ _ i hi => by
          have e9 : (vp_cell (cA t2) (na, .inl (M.2 a))).slots.getD (sp.toNatClampNeg + i) .null = .int (M.2 a (sp.toNatClampNeg + i)) := by
            show (arrV (cA t2) na (fun j => .int (M.2 a j))).slots.getD _ _ = _
            rw [Array.getD_eq_getD_getElem?, arrV_read _ _ (by omega)]
            rfl
          refine ⟨?_, ?_⟩
          · rw [e9]
            exact hfit _
          · rw [e9]
            exact trivial)
        (g := F0 m pc ls (.int n :: .int dp :: .ref (B + b) :: .int sp :: .ref (B + a) :: r.map (rl (zad B E)))) rfl (by rw [hmls]) (rest := r.map (rl (zad B E))) rfl (by rw [hb]; exact hd) hRf (by have := nfw; show 2 * 0 + _ + _ ≤ _; omega)
      have e1 : copied (vp_cell (cA t2) (na, .inl (M.2 a))) (vp_cell (cA t2) (nb, .inl (M.2 b))) sp dp n = vp_cell (cA t2) (nb, .inl (va_cpy (M.2 a) (M.2 b) sp.toNatClampNeg dp.toNatClampNeg n.toNatClampNeg)) := va_copied (fun z => .int z) (cA t2) (cA t2) (M.2 a) (M.2 b) h4
      rw [e1] at X1 step
      have hlt : B + b < H.size := (Array.getElem?_eq_some_iff.mp hc1).1
      have hheap : ((T.setVm vm').setCell (B + b) (vp_cell (cA t2) (nb, .inl (va_cpy (M.2 a) (M.2 b) sp.toNatClampNeg dp.toNatClampNeg n.toNatClampNeg)))).heap = H.setIfInBounds (B + b) (vp_cell (cA t2) (nb, .inl (va_cpy (M.2 a) (M.2 b) sp.toNatClampNeg dp.toNatClampNeg n.toNatClampNeg))) := by rw [← hT]; rfl
      have oq : ∀ q : Nat, q ≠ B + b → (H.setIfInBounds (B + b) (vp_cell (cA t2) (nb, .inl (va_cpy (M.2 a) (M.2 b) sp.toNatClampNeg dp.toNatClampNeg n.toNatClampNeg))))[q]? = H[q]? := fun q hq => by simp [Array.getElem?_setIfInBounds, Ne.symm hq]
      have zz : (H.setIfInBounds (B + b) (vp_cell (cA t2) (nb, .inl (va_cpy (M.2 a) (M.2 b) sp.toNatClampNeg dp.toNatClampNeg n.toNatClampNeg)))).size = H.size := by simp
      have hcell : (H.setIfInBounds (B + b) (vp_cell (cA t2) (nb, .inl (va_cpy (M.2 a) (M.2 b) sp.toNatClampNeg dp.toNatClampNeg n.toNatClampNeg))))[B + b]? = some (vp_cell (cA t2) (nb, .inl (va_cpy (M.2 a) (M.2 b) sp.toNatClampNeg dp.toNatClampNeg n.toNatClampNeg))) := by simp [Array.getElem?_setIfInBounds, hlt]
      have hRel : Rel D (zad B E) B cA (M.1, cp2 M.2 a sp.toNatClampNeg b dp.toNatClampNeg n.toNatClampNeg) (H.setIfInBounds (B + b) (vp_cell (cA t2) (nb, .inl (va_cpy (M.2 a) (M.2 b) sp.toNatClampNeg dp.toNatClampNeg n.toNatClampNeg)))) := by
        refine hR.put rfl hsb (fun j hj => ⟨rfl, cp2_ne hj⟩) ?_ zz oq (hR.2.2.cp hsa hsb)
        rw [ent_low ht]
        show _ = some (vp_cell _ _)
        rw [hcell]
        congr 4
        funext q
        simp [va_cpy, cp2]
      obtain ⟨t, a1, b1⟩ := K _ ls (_ ++ _) cells slots hRel hl ⟨by rw [zz]; exact hS.1, fun q g1 g2 => by
          rw [oq q (fun e => g2 (by rw [e]; exact Nat.le_add_right B b))]
          exact hS.2.1 q g1 g2, fun q hq => by
          rcases List.mem_append.mp hq with h | h
          · exact hS.2.2 q h
          · obtain ⟨z, -, hz⟩ := List.mem_map.mp h
            rw [← hz]
            exact Nat.le_add_right B b⟩ (by show _ = _ + (M.1.length - M.1.length); omega) (by show _ = _ + (szs M - szs M); omega) _ hheap X1
      exact ⟨t, step t a1, b1⟩
  · cases h
/-- new T[n][m], by the library's row (proved last) -/
def Mna : Prop := ∀ {p : Program} {l : Launch} {e : Env} {R : Room} {s : State} {m : MethodId} {args : Array Value} {below : List Frame} {meth : Method} {c : Code} {H : Heap} {locs : List Loc} {cells slots : Nat} {Q : State → Prop} {cc : ByteArray} {pc nL : Nat} {ls : Array Slot} {own nm : String} {Ts : List Jvm.Cond} {D : va_G} {B : Nat} {E : Nat → Nat} {cA : Nat → ClassId} {X : Xx} {M : Mm} {L : Lc} {st : List Value} {ix len : Nat} {au : List Nat} {v : Int} {x : Nx}, Ctx p R s m args meth c cc nL own nm Ts D B E cA X → okE own nm cc (pc, .multianewarray ix 2, len, au, v) = true → newM pc L st M = some x → Rel D (zad B E) B cA M H → lok (zad B E) ls nL L → va_S (fun q => B ≤ q) s.heap H locs → cells + ((apA M x.2.2.2).1.length - M.1.length) ≤ R.cells → slots + (szs (apA M x.2.2.2) - szs M) ≤ R.slots → Kont p l e R s m args below meth c cells slots Q nL D B E cA M x → W p l e R s m args below meth c H locs cells slots Q (F0 m pc ls (st.map (rl (zad B E))))
theorem c_br {off : Int} {b : Bool} {r : List Value} {W' : Prop} (hd : ∀ t : Nat, (pc : Int) + off = (t : Int) → (b = true → W p l e R s m args below meth c H locs cells slots Q (F0 m t ls (r.map (rl (zad B E))))) → (b = false → W p l e R s m args below meth c H locs cells slots Q (F0 m (pc + 3) ls (r.map (rl (zad B E))))) → W') (h : br pc off b L r = some x) (hR : Rel D (zad B E) B cA M H) (hl : lok (zad B E) ls nL L) (hS : va_S (fun q => B ≤ q) s.heap H locs) (K : Kont p l e R s m args below meth c cells slots Q nL D B E cA M x) : W' := by
  obtain ⟨t, ht, rfl⟩ := br_inv h
  refine hd t ht (fun hb => ?_) (fun hb => ?_)
  · have K' := K.here hR hS hl
    rw [hb] at K'
    exact K'
  · have K' := K.here hR hS hl
    rw [hb] at K'
    exact K'
theorem c_jmp {off : Int} {r : List Value} {W' : Prop} (hd : ∀ t : Nat, (pc : Int) + off = (t : Int) → W p l e R s m args below meth c H locs cells slots Q (F0 m t ls (r.map (rl (zad B E)))) → W') (h : jmp pc off L r = some x) (hR : Rel D (zad B E) B cA M H) (hl : lok (zad B E) ls nL L) (hS : va_S (fun q => B ≤ q) s.heap H locs) (K : Kont p l e R s m args below meth c cells slots Q nL D B E cA M x) : W' := by
  obtain ⟨t, ht, rfl⟩ := jmp_inv h
  exact hd t ht (K.here hR hS hl)
end ZQ
