/-! One step of the small machine is the machine's: each instruction by the kit's row -/
section ZC
variable {p : Program} {l : Launch} {e : Env} {R : Room} {s : State} {m : MethodId} {args : Array Value} {below : List Frame} {meth : Method} {c : Code} {H : Heap} {locs : List Loc} {cells slots : Nat} {Q : State → Prop}
variable {cc : ByteArray} {pc nL : Nat} {ls : Array Slot} {own nm : String} {Ts : List Jvm.Cond} {D : va_G} {B : Nat} {E : Nat → Nat} {cA : Nat → ClassId} {X : Xx} {M : Mm} {L : Lc} {st : List Value} {en : En} {x : Nx}
def Ctx (p : Program) (R : Room) (s : State) (m : MethodId) (args : Array Value) (meth : Method) (c : Code) (cc : ByteArray) (nL : Nat) (own nm : String) (Ts : List Jvm.Cond) (D : va_G) (B : Nat) (E : Nat → Nat) (cA : Nat → ClassId) (X : Xx) : Prop :=
  p.tables.exec = Jvm.exec ∧ c.code = cc ∧ c.maxLocals = nL ∧ s.vm.findClass own = some m.cls ∧ (∀ w ∈ Ts, w.before args s = true) ∧ (∀ w ∈ lw_tbl, goodWord w = true → w ∈ Ts) ∧ Good D B E cA X s ∧ meth.name = nm ∧ 1 ≤ R.frames ∧ 60 ≤ R.locals
def Kont (p : Program) (l : Launch) (e : Env) (R : Room) (s : State) (m : MethodId) (args : Array Value) (below : List Frame) (meth : Method) (c : Code) (cells slots : Nat) (Q : State → Prop) (nL : Nat) (D : va_G) (B : Nat) (E : Nat → Nat) (cA : Nat → ClassId) (M : Mm) (x : Nx) : Prop :=
  ∀ (H : Heap) (ls : Array Slot) (locs : List Loc) (cells' slots' : Nat), Rel D (zad B E) B cA (apA M x.2.2.2) H → lok (zad B E) ls nL x.2.1 → va_S (fun q => B ≤ q) s.heap H locs → cells' = cells + ((apA M x.2.2.2).1.length - M.1.length) → slots' = slots + (szs (apA M x.2.2.2) - szs M) →
    W p l e R s m args below meth c H locs cells' slots' Q (F0 m x.1 ls (x.2.2.1.map (rl (zad B E))))
theorem Kont.here {pc' : Nat} {L' : Lc} {st' : List Value} (K : Kont p l e R s m args below meth c cells slots Q nL D B E cA M (pc', L', st', none)) (hR : Rel D (zad B E) B cA M H) (hS : va_S (fun q => B ≤ q) s.heap H locs) (hl : lok (zad B E) ls nL L') : W p l e R s m args below meth c H locs cells slots Q (F0 m pc' ls (st'.map (rl (zad B E)))) :=
  K H ls locs cells slots hR hl hS (by show _ = _ + (M.1.length - M.1.length); omega) (by show _ = _ + (szs M - szs M); omega)
/-! what a step's shape says -/
theorem i2_inv {f : Int32 → Int32 → Option Int32} (h : i2 pc L st f = some x) : ∃ a b z r, st = .int b :: .int a :: r ∧ f a b = some z ∧ x = (pc + 1, L, .int z :: r, none) := by
  unfold i2 at h
  split at h
  · split at h
    · cases h; exact ⟨_, _, _, _, rfl, ‹_›, rfl⟩
    · cases h
  · cases h
theorem l2_inv {f : Int64 → Int64 → Option Int64} (h : l2 pc L st f = some x) : ∃ a b z r, st = .long b :: .long a :: r ∧ f a b = some z ∧ x = (pc + 1, L, .long z :: r, none) := by
  unfold l2 at h
  split at h
  · split at h
    · cases h; exact ⟨_, _, _, _, rfl, ‹_›, rfl⟩
    · cases h
  · cases h
theorem i1_inv {f : Int32 → Int32} (h : i1 pc L st f = some x) : ∃ a r, st = .int a :: r ∧ x = (pc + 1, L, .int (f a) :: r, none) := by
  unfold i1 at h
  split at h
  · cases h; exact ⟨_, _, rfl, rfl⟩
  · cases h
theorem ldI_inv {n i : Nat} (h : ldI pc n i L st = some x) : ∃ a, L[i]? = some (some (.int a)) ∧ x = (pc + n, L, .int a :: st, none) := by
  unfold ldI at h
  split at h
  · cases h; exact ⟨_, ‹_›, rfl⟩
  · cases h
theorem ldL_inv {n i : Nat} (h : ldL pc n i L st = some x) : ∃ a, L[i]? = some (some (.long a)) ∧ x = (pc + n, L, .long a :: st, none) := by
  unfold ldL at h
  split at h
  · cases h; exact ⟨_, ‹_›, rfl⟩
  · cases h
theorem ldA_inv {n i : Nat} (h : ldA pc n i L st = some x) : (∃ a, L[i]? = some (some (.ref a)) ∧ x = (pc + n, L, .ref a :: st, none)) ∨ (L[i]? = some (some .null) ∧ x = (pc + n, L, .null :: st, none)) := by
  unfold ldA at h
  split at h
  · cases h; exact Or.inl ⟨_, ‹_›, rfl⟩
  · cases h; exact Or.inr ⟨‹_›, rfl⟩
  · cases h
theorem stI_inv {n i : Nat} (h : stI pc n i L st = some x) : ∃ a r, st = .int a :: r ∧ i < L.length ∧ x = (pc + n, st1 L i (.int a), r, none) := by
  unfold stI at h
  split at h
  · split at h
    · cases h; exact ⟨_, _, rfl, ‹_›, rfl⟩
    · cases h
  · cases h
theorem stL_inv {n i : Nat} (h : stL pc n i L st = some x) : ∃ a r, st = .long a :: r ∧ i + 1 < L.length ∧ x = (pc + n, st2 L i (.long a), r, none) := by
  unfold stL at h
  split at h
  · split at h
    · cases h; exact ⟨_, _, rfl, ‹_›, rfl⟩
    · cases h
  · cases h
theorem stA_inv {n i : Nat} (h : stA pc n i L st = some x) : i < L.length ∧ ((∃ a r, st = .ref a :: r ∧ x = (pc + n, st1 L i (.ref a), r, none)) ∨ (∃ r, st = .null :: r ∧ x = (pc + n, st1 L i .null, r, none))) := by
  unfold stA at h
  split at h
  · split at h
    · cases h; exact ⟨‹_›, Or.inl ⟨_, _, rfl, rfl⟩⟩
    · cases h
  · split at h
    · cases h; exact ⟨‹_›, Or.inr ⟨_, rfl, rfl⟩⟩
    · cases h
  · cases h
theorem tg_inv {off : Int} {t : Nat} (h : tg pc off = some t) : (pc : Int) + off = (t : Int) := by
  unfold tg at h
  split at h
  · cases h; omega
  · cases h
theorem jmp_inv {off : Int} (h : jmp pc off L st = some x) : ∃ t : Nat, (pc : Int) + off = (t : Int) ∧ x = (t, L, st, none) := by
  unfold jmp at h
  split at h
  · cases h; exact ⟨_, tg_inv ‹_›, rfl⟩
  · cases h
theorem br_inv {off : Int} {b : Bool} (h : br pc off b L st = some x) : ∃ t : Nat, (pc : Int) + off = (t : Int) ∧ x = (if b then t else pc + 3, L, st, none) := by
  unfold br at h
  split at h
  · cases h; exact ⟨_, tg_inv ‹_›, rfl⟩
  · cases h
theorem inb_in {i : Int32} {n : Nat} (h : inb i n = true) : vp_in i n := by
  simp only [inb, Bool.and_eq_true, Bool.not_eq_true', decide_eq_false_iff_not, decide_eq_true_eq] at h
  intro q
  rcases q with q | q
  · exact h.1 q
  · omega
/-! locals, constants, numbers -/
theorem c_ldI {n i : Nat} (hd : ∀ (a : Int32), ls[i]? = some (.val (.int a)) → W p l e R s m args below meth c H locs cells slots Q (F0 m (pc + n) ls (.int a :: st.map (rl (zad B E)))) → W p l e R s m args below meth c H locs cells slots Q (F0 m pc ls (st.map (rl (zad B E))))) (h : ldI pc n i L st = some x) (hR : Rel D (zad B E) B cA M H) (hl : lok (zad B E) ls nL L) (hS : va_S (fun q => B ≤ q) s.heap H locs) (K : Kont p l e R s m args below meth c cells slots Q nL D B E cA M x) : W p l e R s m args below meth c H locs cells slots Q (F0 m pc ls (st.map (rl (zad B E)))) := by
  obtain ⟨a, h1, rfl⟩ := ldI_inv h
  exact hd a (hl.2.2.2 _ _ h1) (K.here hR hS hl)
theorem c_ldL {n i : Nat} (hd : ∀ (a : Int64), ls[i]? = some (.val (.long a)) → W p l e R s m args below meth c H locs cells slots Q (F0 m (pc + n) ls (.long a :: st.map (rl (zad B E)))) → W p l e R s m args below meth c H locs cells slots Q (F0 m pc ls (st.map (rl (zad B E))))) (h : ldL pc n i L st = some x) (hR : Rel D (zad B E) B cA M H) (hl : lok (zad B E) ls nL L) (hS : va_S (fun q => B ≤ q) s.heap H locs) (K : Kont p l e R s m args below meth c cells slots Q nL D B E cA M x) : W p l e R s m args below meth c H locs cells slots Q (F0 m pc ls (st.map (rl (zad B E)))) := by
  obtain ⟨a, h1, rfl⟩ := ldL_inv h
  exact hd a (hl.2.2.2 _ _ h1) (K.here hR hS hl)
theorem c_ldA {n i : Nat} (hd : ∀ (a : Nat), ls[i]? = some (.val (.ref a)) → W p l e R s m args below meth c H locs cells slots Q (F0 m (pc + n) ls (.ref a :: st.map (rl (zad B E)))) → W p l e R s m args below meth c H locs cells slots Q (F0 m pc ls (st.map (rl (zad B E))))) (hd2 : ls[i]? = some (.val .null) → W p l e R s m args below meth c H locs cells slots Q (F0 m (pc + n) ls (.null :: st.map (rl (zad B E)))) → W p l e R s m args below meth c H locs cells slots Q (F0 m pc ls (st.map (rl (zad B E))))) (h : ldA pc n i L st = some x) (hR : Rel D (zad B E) B cA M H) (hl : lok (zad B E) ls nL L) (hS : va_S (fun q => B ≤ q) s.heap H locs) (K : Kont p l e R s m args below meth c cells slots Q nL D B E cA M x) : W p l e R s m args below meth c H locs cells slots Q (F0 m pc ls (st.map (rl (zad B E)))) := by
  rcases ldA_inv h with ⟨a, h1, rfl⟩ | ⟨h1, rfl⟩
  · exact hd _ (hl.2.2.2 _ _ h1) (K.here hR hS hl)
  · exact hd2 (hl.2.2.2 _ _ h1) (K.here hR hS hl)
theorem c_stI {n i : Nat} (hd : ∀ (a : Int32) (r : List Value), (∀ ls' : Array Slot, lv_has ls' nL ((i, .int a) :: (lvl (zad B E) L).filter (fun q => !(q.1 == i) && !(q.1 + 1 == i && q.2.category == 2))) → W p l e R s m args below meth c H locs cells slots Q (F0 m (pc + n) ls' r)) → W p l e R s m args below meth c H locs cells slots Q (F0 m pc ls (.int a :: r))) (h : stI pc n i L st = some x) (hR : Rel D (zad B E) B cA M H) (hl : lok (zad B E) ls nL L) (hS : va_S (fun q => B ≤ q) s.heap H locs) (K : Kont p l e R s m args below meth c cells slots Q nL D B E cA M x) : W p l e R s m args below meth c H locs cells slots Q (F0 m pc ls (st.map (rl (zad B E)))) := by
  obtain ⟨a, r, rfl, hi, rfl⟩ := stI_inv h
  exact hd a _ fun ls' h' => K.here hR hS (lok_st1 hl.2.2.1 (by rw [← hl.2.2.1]; exact hi) h')
theorem c_stL {n i : Nat} (hd : ∀ (a : Int64) (r : List Value), (∀ ls' : Array Slot, lv_has ls' nL ((i, .long a) :: (lvl (zad B E) L).filter (fun q => !(q.1 == i) && (!(q.1 == i + 1) && !(q.1 + 1 == i && q.2.category == 2)))) → W p l e R s m args below meth c H locs cells slots Q (F0 m (pc + n) ls' r)) → W p l e R s m args below meth c H locs cells slots Q (F0 m pc ls (.long a :: r))) (h : stL pc n i L st = some x) (hR : Rel D (zad B E) B cA M H) (hl : lok (zad B E) ls nL L) (hS : va_S (fun q => B ≤ q) s.heap H locs) (K : Kont p l e R s m args below meth c cells slots Q nL D B E cA M x) : W p l e R s m args below meth c H locs cells slots Q (F0 m pc ls (st.map (rl (zad B E)))) := by
  obtain ⟨a, r, rfl, hi, rfl⟩ := stL_inv h
  exact hd a _ fun ls' h' => K.here hR hS (lok_st2 hl.2.2.1 (by rw [← hl.2.2.1]; exact hi) h')
theorem c_stA {n i : Nat} (hd : ∀ (a : Nat) (r : List Value), (∀ ls' : Array Slot, lv_has ls' nL ((i, .ref a) :: (lvl (zad B E) L).filter (fun q => !(q.1 == i) && !(q.1 + 1 == i && q.2.category == 2))) → W p l e R s m args below meth c H locs cells slots Q (F0 m (pc + n) ls' r)) → W p l e R s m args below meth c H locs cells slots Q (F0 m pc ls (.ref a :: r)))
    (hd2 : ∀ (r : List Value), (∀ ls' : Array Slot, lv_has ls' nL ((i, .null) :: (lvl (zad B E) L).filter (fun q => !(q.1 == i) && !(q.1 + 1 == i && q.2.category == 2))) → W p l e R s m args below meth c H locs cells slots Q (F0 m (pc + n) ls' r)) → W p l e R s m args below meth c H locs cells slots Q (F0 m pc ls (.null :: r))) (h : stA pc n i L st = some x) (hR : Rel D (zad B E) B cA M H) (hl : lok (zad B E) ls nL L) (hS : va_S (fun q => B ≤ q) s.heap H locs) (K : Kont p l e R s m args below meth c cells slots Q nL D B E cA M x) : W p l e R s m args below meth c H locs cells slots Q (F0 m pc ls (st.map (rl (zad B E)))) := by
  obtain ⟨hi, ⟨a, r, rfl, rfl⟩ | ⟨r, rfl, rfl⟩⟩ := stA_inv h
  · exact hd _ _ fun ls' h' => K.here hR hS (lok_st1 hl.2.2.1 (by rw [← hl.2.2.1]; exact hi) h')
  · exact hd2 _ fun ls' h' => K.here hR hS (lok_st1 (v := .null) hl.2.2.1 (by rw [← hl.2.2.1]; exact hi) h')
theorem c_i2 {f : Int32 → Int32 → Option Int32} (hd : ∀ (a b z : Int32) (r : List Value), f a b = some z → W p l e R s m args below meth c H locs cells slots Q (F0 m (pc + 1) ls (.int z :: r)) → W p l e R s m args below meth c H locs cells slots Q (F0 m pc ls (.int b :: .int a :: r))) (h : i2 pc L st f = some x) (hR : Rel D (zad B E) B cA M H) (hl : lok (zad B E) ls nL L) (hS : va_S (fun q => B ≤ q) s.heap H locs) (K : Kont p l e R s m args below meth c cells slots Q nL D B E cA M x) : W p l e R s m args below meth c H locs cells slots Q (F0 m pc ls (st.map (rl (zad B E)))) := by
  obtain ⟨a, b, z, r, rfl, hz, rfl⟩ := i2_inv h
  exact hd a b z _ hz (K.here hR hS hl)
theorem c_l2 {f : Int64 → Int64 → Option Int64} (hd : ∀ (a b z : Int64) (r : List Value), f a b = some z → W p l e R s m args below meth c H locs cells slots Q (F0 m (pc + 1) ls (.long z :: r)) → W p l e R s m args below meth c H locs cells slots Q (F0 m pc ls (.long b :: .long a :: r))) (h : l2 pc L st f = some x) (hR : Rel D (zad B E) B cA M H) (hl : lok (zad B E) ls nL L) (hS : va_S (fun q => B ≤ q) s.heap H locs) (K : Kont p l e R s m args below meth c cells slots Q nL D B E cA M x) : W p l e R s m args below meth c H locs cells slots Q (F0 m pc ls (st.map (rl (zad B E)))) := by
  obtain ⟨a, b, z, r, rfl, hz, rfl⟩ := l2_inv h
  exact hd a b z _ hz (K.here hR hS hl)
theorem c_i1 {f : Int32 → Int32} (hd : ∀ (a : Int32) (r : List Value), W p l e R s m args below meth c H locs cells slots Q (F0 m (pc + 1) ls (.int (f a) :: r)) → W p l e R s m args below meth c H locs cells slots Q (F0 m pc ls (.int a :: r))) (h : i1 pc L st f = some x) (hR : Rel D (zad B E) B cA M H) (hl : lok (zad B E) ls nL L) (hS : va_S (fun q => B ≤ q) s.heap H locs) (K : Kont p l e R s m args below meth c cells slots Q nL D B E cA M x) : W p l e R s m args below meth c H locs cells slots Q (F0 m pc ls (st.map (rl (zad B E)))) := by
  obtain ⟨a, r, rfl, rfl⟩ := i1_inv h
  exact hd a _ (K.here hR hS hl)
end ZC
