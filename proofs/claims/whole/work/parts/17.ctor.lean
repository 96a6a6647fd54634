/-! The constructors, run -/
def X0 : Xx := (0, fun _ => 0, false)
def rd : List (Nat × Nat × Int32) → Sg
  | [] => fun _ _ => 0
  | w :: l => up2 (rd l) w.1 w.2.1 w.2.2
abbrev Em : Type := List Shp × List (Nat × Nat × Int32)
def tMm (m : Em) : Mm := (m.1, rd m.2)
def apE (m : Em) (a : Act) : Option Em := match a with
  | none => some m
  | some (.inl sh) => some (m.1 ++ sh, m.2)
  | some (.inr (.inl w)) => some (m.1, w :: m.2)
  | some (.inr (.inr (.inl w))) => some (setR m.1 w.1 w.2.1 w.2.2, m.2)
  | _ => none
theorem apE_ok {m m' : Em} {a : Act} (h : apE m a = some m') : apA (tMm m) a = tMm m' := by
  unfold apE at h
  split at h
  · cases h; rfl
  · cases h; rfl
  · cases h; rfl
  · cases h; rfl
  · cases h
def okp (i : Instr) (st : List Value) : Bool := match i with
  | .getfield _ | .arraylength => match st with
    | .ref a :: _ => decide (a < 1000)
    | _ => false
  | .aload_n _ | .aload _ | .iload_n _ | .iload _ | .astore_n _ | .astore _ | .istore_n _ | .istore _ | .iconst _ | .bipush _ | .sipush _ | .dup | .newarray _ | .anewarray _ | .multianewarray _ _ | .new _ | .putfield _ | .aastore | .iastore | .iadd | .iinc _ _ | .goto _ | .if_icmp _ _ | .invokespecial _ => true
  | _ => false
theorem gfd_irr {X : Xx} {pc : Nat} {au : List Nat} {L : Lc} {st : List Value} {M : Mm} {a : Nat} (h : a < 1000) : gfd zft X pc au L (.ref a :: st) M = gfd zft X0 pc au L (.ref a :: st) M := by
  have e : ∀ ci k, gf zft X M ci k a = gf zft X0 M ci k a := fun ci k => by
    unfold gf
    rw [show shOf X M a = M.1[a]? from if_pos h, show shOf X0 M a = M.1[a]? from if_pos h, show rdv X M.2 a k = M.2 a k from if_pos h, show rdv X0 M.2 a k = M.2 a k from if_pos h]
  match au with
  | [] => rfl
  | [_] => rfl
  | ci :: k :: _ => show (match gf zft X M ci k a with | some v => _ | none => _) = _; rw [e]; rfl
theorem aln_irr {X : Xx} {pc : Nat} {L : Lc} {st : List Value} {M : Mm} {a : Nat} (h : a < 1000) : aln X pc L (.ref a :: st) M = aln X0 pc L (.ref a :: st) M := by
  show (match shOf X M a with | some (t, n, _) => _ | none => _) = (match shOf X0 M a with | some (t, n, _) => _ | none => _)
  rw [show shOf X M a = M.1[a]? from if_pos h, show shOf X0 M a = M.1[a]? from if_pos h]
theorem okp_irr {X : Xx} {e : En} {pc : Nat} {L : Lc} {st : List Value} {M : Mm} (h : okp e.1 st = true) : pcore zft X e pc L st M = pcore zft X0 e pc L st M := by
  obtain ⟨i, ln, au, v⟩ := e
  cases i
  case getfield ix =>
    match st, h with
    | .ref a :: r, h => exact gfd_irr (of_decide_eq_true h)
  case arraylength =>
    match st, h with
    | .ref a :: r, h => exact aln_irr (of_decide_eq_true h)
  all_goals first | rfl | cases h
def okc (i : Instr) : Bool := match i with
  | .invokespecial _ | .invokestatic _ => true
  | _ => false
theorem okc_irr {X : Xx} {e : En} {st : List Value} {M : Mm} (h : okc e.1 = true) : callOf X M e st = callOf X0 M e st := by
  obtain ⟨i, ln, au, v⟩ := e
  cases i
  case invokespecial ix => rfl
  case invokestatic ix => rfl
  all_goals cases h
abbrev Ec : Type := Nat → List Value → Em → Option (Option Value × Em)
def runF (call : Ec) (rt : Option FieldType) (cd : List (Nat × En)) : Nat → Nat → Lc → List Value → Em → Option (Option Value × Em)
  | 0, _, _, _, _ => none
  | n + 1, pc, L, st, m => match lkp cd pc with
    | none => none
    | some e => match retOf rt e.1 st with
      | some v => some (v, m)
      | none => match (if okp e.1 st then pcore zft X0 e pc L st (tMm m) else none) with
        | some x => match apE m x.2.2.2 with
          | some m' => runF call rt cd n x.1 x.2.1 x.2.2.1 m'
          | none => none
        | none => match (if okc e.1 then callOf X0 (tMm m) e st else none) with
          | some c => match call c.1 c.2.1 m with
            | some o => runF call rt cd n (pc + 3) L (o.1.toList ++ c.2.2) o.2
            | none => none
          | none => none
def runM (mt : List Mi) : Nat → Ec
  | 0 => fun _ _ _ => none
  | d + 1 => fun mid as m => match mt[mid]? with
    | some mi => if (iL as).length ≤ mi.2.2.1 then runF (runM mt d) mi.2.2.2.1 mi.2.2.2.2 3000 0 (initL as mi.2.2.1) [] m else none
    | none => none
theorem runF_ok {X : Xx} {call : Cl} {ec : Ec} (hc : ∀ mid as m o, ec mid as m = some o → call mid as (tMm m) (o.1, tMm o.2)) {rt : Option FieldType} {cd : List (Nat × En)} : ∀ (n pc : Nat) (L : Lc) (st : List Value) (m : Em) (o : Option Value × Em), runF ec rt cd n pc L st m = some o → EvF zft X call rt (lkp cd) (o.1, tMm o.2) n pc L st (tMm m)
  | 0, _, _, _, _, _, h => by cases h
  | n + 1, pc, L, st, m, o, h => by
    unfold runF at h
    split at h
    · cases h
    rename_i e he
    refine Or.inr ⟨e, he, ?_⟩
    split at h
    · rename_i v hv
      cases h
      exact Or.inr (Or.inl ⟨v, hv, rfl⟩)
    split at h
    · rename_i x hx
      split at hx
      · rename_i hok
        split at h
        · rename_i m' hm
          refine Or.inl ⟨x, (okp_irr hok).trans hx, ?_⟩
          rw [apE_ok hm]
          exact runF_ok hc n _ _ _ _ _ h
        · cases h
      · cases hx
    · split at h
      · rename_i c hcc
        split at hcc
        · rename_i hok
          split at h
          · rename_i o1 ho
            exact Or.inr (Or.inr ⟨c, (okc_irr hok).trans hcc, (o1.1, tMm o1.2), hc _ _ _ _ ho, runF_ok hc n _ _ _ _ _ h⟩)
          · cases h
        · cases hcc
      · cases h
theorem runM_ok {X : Xx} {mt : List Mi} : ∀ (d : Nat) (mid : Nat) (as : List Value) (m : Em) (o : Option Value × Em), runM mt d mid as m = some o → EvM zft mt X d mid as (tMm m) (o.1, tMm o.2)
  | 0, _, _, _, _, h => by cases h
  | d + 1, mid, as, m, o, h => by
    have h : (match mt[mid]? with
      | some mi => if (iL as).length ≤ mi.2.2.1 then runF (runM mt d) mi.2.2.2.1 mi.2.2.2.2 3000 0 (initL as mi.2.2.1) [] m else none
      | none => none) = some o := h
    split at h
    · rename_i mi hmi
      split at h
      · rename_i hl
        exact ⟨mi, hmi, hl, 3000, runF_ok (fun mid as m o => runM_ok d mid as m o) _ _ _ _ _ _ h⟩
      · cases h
    · cases h
def SHA : List Shp := [(21, 7, [some 1, some 47, some 186, some 187, some 191, some 200, some 208]), (18, 4, [some 2, some 22, some 31, some 42]), (13, 18, [none, none, some 3, some 4, some 5, some 6, none, some 9, some 10, some 11, some 12, some 13, some 14, some 15, some 16, some 19, some 20, some 21]), (0, 10, []), (0, 10, []), (0, 10, []), (4, 2, [some 7, some 8]), (0, 10, []), (0, 10, []), (0, 14, []), (0, 14, []), (0, 14, []), (0, 14, []), (0, 14, []), (0, 14, []), (2, 14, []), (4, 2, [some 17, some 18]), (0, 126, []), (0, 126, []), (0, 2, []), (0, 2, []), (0, 2, []), (16, 10, [some 23, none, some 24, some 25, some 26, some 27, some 28, some 29, none, some 30]), (0, 8, []), (0, 120, []), (0, 120, []), (0, 120, []), (0, 120, []), (0, 120, []), (0, 120, []), (1, 2400, []), (11, 6, [none, some 32, none, none, some 33, some 41]), (1, 500, []), (12, 8, [none, some 34, some 35, some 36, some 37, some 38, some 39, some 40]), (0, 16, []), (0, 16, []), (0, 16, []), (2, 64, []), (0, 64, []), (0, 64, []), (0, 64, []), (2, 100, []), (10, 5, [none, some 43, some 44, some 45, some 46]), (0, 150, []), (0, 150, []), (0, 150, []), (0, 150, []), (3, 3, [some 48, some 94, some 140]), (18, 4, [some 49, some 69, some 78, some 89]), (13, 18, [none, none, some 50, some 51, some 52, some 53, none, some 56, some 57, some 58, some 59, some 60, some 61, some 62, some 63, some 66, some 67, some 68]), (0, 10, []), (0, 10, []), (0, 10, []), (4, 2, [some 54, some 55]), (0, 10, []), (0, 10, []), (0, 14, []), (0, 14, []), (0, 14, []), (0, 14, []), (0, 14, []), (0, 14, []), (2, 14, []), (4, 2, [some 64, some 65]), (0, 126, []), (0, 126, []), (0, 2, []), (0, 2, []), (0, 2, []), (16, 10, [some 70, none, some 71, some 72, some 73, some 74, some 75, some 76, none, some 77]), (0, 8, []), (0, 120, []), (0, 120, []), (0, 120, []), (0, 120, []), (0, 120, []), (0, 120, []), (1, 2400, []), (11, 6, [none, some 79, none, none, some 80, some 88]), (1, 500, []), (12, 8, [none, some 81, some 82, some 83, some 84, some 85, some 86, some 87]), (0, 16, []), (0, 16, []), (0, 16, []), (2, 64, []), (0, 64, []), (0, 64, []), (0, 64, []), (2, 100, []), (10, 5, [none, some 90, some 91, some 92, some 93]), (0, 150, []), (0, 150, []), (0, 150, []), (0, 150, []), (18, 4, [some 95, some 115, some 124, some 135]), (13, 18, [none, none, some 96, some 97, some 98, some 99, none, some 102, some 103, some 104, some 105, some 106, some 107, some 108, some 109, some 112, some 113, some 114]), (0, 10, []), (0, 10, []), (0, 10, []), (4, 2, [some 100, some 101]), (0, 10, []), (0, 10, []), (0, 14, []), (0, 14, []), (0, 14, []), (0, 14, []), (0, 14, []), (0, 14, []), (2, 14, []), (4, 2, [some 110, some 111]), (0, 126, []), (0, 126, []), (0, 2, []), (0, 2, []), (0, 2, []), (16, 10, [some 116, none, some 117, some 118, some 119, some 120, some 121, some 122, none, some 123]), (0, 8, []), (0, 120, []), (0, 120, []), (0, 120, []), (0, 120, []), (0, 120, []), (0, 120, []), (1, 2400, []), (11, 6, [none, some 125, none, none, some 126, some 134]), (1, 500, []), (12, 8, [none, some 127, some 128, some 129, some 130, some 131, some 132, some 133]), (0, 16, []), (0, 16, []), (0, 16, []), (2, 64, []), (0, 64, []), (0, 64, []), (0, 64, []), (2, 100, []), (10, 5, [none, some 136, some 137, some 138, some 139]), (0, 150, []), (0, 150, []), (0, 150, []), (0, 150, []), (18, 4, [some 141, some 161, some 170, some 181]), (13, 18, [none, none, some 142, some 143, some 144, some 145, none, some 148, some 149, some 150, some 151, some 152, some 153, some 154, some 155, some 158, some 159, some 160]), (0, 10, []), (0, 10, []), (0, 10, []), (4, 2, [some 146, some 147]), (0, 10, []), (0, 10, []), (0, 14, []), (0, 14, []), (0, 14, []), (0, 14, []), (0, 14, []), (0, 14, []), (2, 14, []), (4, 2, [some 156, some 157]), (0, 126, []), (0, 126, []), (0, 2, []), (0, 2, []), (0, 2, []), (16, 10, [some 162, none, some 163, some 164, some 165, some 166, some 167, some 168, none, some 169]), (0, 8, []), (0, 120, []), (0, 120, []), (0, 120, []), (0, 120, []), (0, 120, []), (0, 120, []), (1, 2400, []), (11, 6, [none, some 171, none, none, some 172, some 180]), (1, 500, []), (12, 8, [none, some 173, some 174, some 175, some 176, some 177, some 178, some 179]), (0, 16, []), (0, 16, []), (0, 16, []), (2, 64, []), (0, 64, []), (0, 64, []), (0, 64, []), (2, 100, []), (10, 5, [none, some 182, some 183, some 184, some 185]), (0, 150, []), (0, 150, []), (0, 150, []), (0, 150, []), (2, 3, []), (20, 4, [some 188, some 189, some 190, none]), (0, 10, []), (0, 10, []), (0, 10, []), (14, 11, [some 192, none, none, none, none, none, none, none, none, none, none]), (12, 8, [none, some 193, some 194, some 195, some 196, some 197, some 198, some 199]), (0, 16, []), (0, 16, []), (0, 16, []), (2, 64, []), (0, 64, []), (0, 64, []), (0, 64, []), (15, 8, [some 201, some 202, some 203, some 204, some 205, some 206, some 207, none]), (0, 8, []), (0, 8, []), (0, 8, []), (0, 8, []), (0, 8, []), (0, 8, []), (0, 168, []), (19, 14, [none, none, none, none, none, none, none, none, some 209, some 210, some 211, some 212, some 213, some 214]), (0, 4, []), (0, 8, []), (0, 8, []), (0, 4, []), (0, 4, []), (0, 4, [])]
def LGA : List (Nat × Nat × Int32) := [(170, 3, (-1)), (162, 7, (-1)), (162, 6, (-1)), (162, 5, (-1)), (162, 4, (-1)), (162, 3, (-1)), (162, 2, (-1)), (162, 1, (-1)), (162, 0, (-1)), (124, 3, (-1)), (116, 7, (-1)), (116, 6, (-1)), (116, 5, (-1)), (116, 4, (-1)), (116, 3, (-1)), (116, 2, (-1)), (116, 1, (-1)), (116, 0, (-1)), (78, 3, (-1)), (70, 7, (-1)), (70, 6, (-1)), (70, 5, (-1)), (70, 4, (-1)), (70, 3, (-1)), (70, 2, (-1)), (70, 1, (-1)), (70, 0, (-1)), (31, 3, (-1)), (23, 7, (-1)), (23, 6, (-1)), (23, 5, (-1)), (23, 4, (-1)), (23, 3, (-1)), (23, 2, (-1)), (23, 1, (-1)), (23, 0, (-1))]
def LGF : List (Nat × Nat × Int32) := [(216, 37, (-1)), (216, 36, (-1)), (216, 35, (-1)), (216, 34, (-1)), (216, 33, (-1)), (216, 32, (-1)), (216, 31, (-1)), (216, 30, (-1)), (216, 9, (-1)), (170, 3, (-1)), (162, 7, (-1)), (162, 6, (-1)), (162, 5, (-1)), (162, 4, (-1)), (162, 3, (-1)), (162, 2, (-1)), (162, 1, (-1)), (162, 0, (-1)), (124, 3, (-1)), (116, 7, (-1)), (116, 6, (-1)), (116, 5, (-1)), (116, 4, (-1)), (116, 3, (-1)), (116, 2, (-1)), (116, 1, (-1)), (116, 0, (-1)), (78, 3, (-1)), (70, 7, (-1)), (70, 6, (-1)), (70, 5, (-1)), (70, 4, (-1)), (70, 3, (-1)), (70, 2, (-1)), (70, 1, (-1)), (70, 0, (-1)), (31, 3, (-1)), (23, 7, (-1)), (23, 6, (-1)), (23, 5, (-1)), (23, 4, (-1)), (23, 3, (-1)), (23, 2, (-1)), (23, 1, (-1)), (23, 0, (-1))]
def isE (o : Option (Option Value × Em)) (m : Em) : Bool := match o with
  | some (none, m') => decide (m' = m)
  | _ => false
theorem isE_ok {o : Option (Option Value × Em)} {m : Em} (h : isE o m = true) : o = some (none, m) := by
  unfold isE at h
  split at h
  · rw [of_decide_eq_true h]
  · cases h
theorem run_x : isE (runM mtl 50 106 [.ref 0] ([(21, 7, List.replicate 7 none)], [])) (SHA, LGA) = true := by decide +kernel
theorem run_m : isE (runM mtl 50 148 [.ref 215] (SHA ++ [(22, 33, List.replicate 33 none)], LGA)) (SHF, LGF) = true := by decide +kernel
def g00 : Sg := rd LGF
theorem ev_x {X : Xx} : EvM zft mtl X 50 106 [.ref 0] ([(21, 7, List.replicate 7 none)], fun _ _ => 0) (none, (SHA, rd LGA)) := runM_ok 50 106 [.ref 0] _ _ (isE_ok run_x)
theorem ev_m {X : Xx} : EvM zft mtl X 50 148 [.ref 215] (SHA ++ [(22, 33, List.replicate 33 none)], rd LGA) (none, (SHF, g00)) := runM_ok 50 148 [.ref 215] _ _ (isE_ok run_m)
