/-! Whole bodies, calls, contracts: what the small machine answers, the machine answers -/
def UNI : List Jvm.Cond := lw_tbl.filter goodWord
theorem UNI_mem {w : Jvm.Cond} (h : w ∈ lw_tbl) (g : goodWord w = true) : w ∈ UNI := List.mem_filter.mpr ⟨h, g⟩
def wsz (mi : Mi) : List Jvm.Cond := .code mi.1 mi.2.1 mi.2.2.1 mi.2.2.2.1 :: UNI
def rmz (d : Nat) (M : Mm) (o : Out) : Room := { frames := d + 1, cells := o.2.1.length - M.1.length, slots := szs o.2 - szs M, locals := 60 * (d + 1) }
def Qz (D : va_G) (B : Nat) (E : Nat → Nat) (cA : Nat → ClassId) (o : Out) : Array Value → State → Outcome → State → Prop := fun _ st oc t => oc = .returned (o.1.map (rl (zad B E))) ∧ Rel D (zad B E) B cA o.2 t.heap ∧ va_F (fun q => B ≤ q) st t
def Pz (D : va_G) (B : Nat) (E : Nat → Nat) (cA : Nat → ClassId) (X : Xx) (as : List Value) (M : Mm) : Array Value → State → Prop := va_Pc (as.map (rl (zad B E))) (fun U => Good D B E cA X U ∧ Rel D (zad B E) B cA M U.heap)
theorem cps_pos : ∀ mid, mid < 240 → cps.getD mid 0 ≠ 0 := by decide +kernel
theorem cps_len : cps.length = 241 := by decide +kernel
theorem okm_at {mid : Nat} {mi : Mi} (h : mtl[mid]? = some mi) : okM (cps.getD mid 0) mi := by
  have hm : mid < mtl.length := (List.getElem?_eq_some_iff.mp h).1
  have hl : mtl.length = 241 := by decide +kernel
  have hc : mid < cps.length := by rw [cps_len]; omega
  have : (cps.zip mtl)[mid]? = some (cps[mid], mi) := by
    rw [List.getElem?_zip_eq_some]
    exact ⟨List.getElem?_eq_getElem hc, h⟩
  have h2 := okm_all _ (List.mem_of_getElem? this)
  rw [List.getD_eq_getElem?_getD, List.getElem?_eq_getElem hc]
  exact h2
theorem code_in {mid : Nat} {mi : Mi} (h : mtl[mid]? = some mi) (hlt : mid < 240) : Jvm.Cond.code mi.1 mi.2.1 mi.2.2.1 mi.2.2.2.1 ∈ UNI := by
  have h2 := okm_at h
  exact UNI_mem (List.mem_of_getElem? (h2.2.2.2.2.2 (cps_pos mid hlt))) h2.2.2.2.2.1
theorem lkp_mem : ∀ (l : List (Nat × En)) (pc : Nat) (e : En), lkp l pc = some e → (pc, e) ∈ l
  | [], _, _, h => by cases h
  | q :: r, pc, e, h => by
    unfold lkp at h
    split at h
    · rename_i hq
      cases h
      subst hq
      exact List.mem_cons_self
    · exact List.mem_cons_of_mem _ (lkp_mem r pc e h)
theorem apA_mono (M : Mm) (a : Act) : M.1.length ≤ (apA M a).1.length ∧ szs M ≤ szs (apA M a) := by
  match a with
  | none => exact ⟨Nat.le_refl _, Nat.le_refl _⟩
  | some (.inl ss) => exact ⟨by show _ ≤ (M.1 ++ ss).length; rw [List.length_append]; omega, by show _ ≤ szs (M.1 ++ ss, M.2); rw [szs_app]; show szs M ≤ szs M + _; omega⟩
  | some (.inr (.inl w)) => exact ⟨Nat.le_refl _, Nat.le_refl _⟩
  | some (.inr (.inr (.inl w))) => exact ⟨by show _ ≤ (setR M.1 _ _ _).length; rw [setR_len]; omega, by show szs M ≤ szs (setR M.1 _ _ _, M.2); unfold szs; rw [setR_szs]; omega⟩
  | some (.inr (.inr (.inr w))) => exact ⟨Nat.le_refl _, Nat.le_refl _⟩
theorem EvF_mono {ft : List (List Nat)} {X : Xx} {call : Cl} {rt : Option FieldType} {cd : Nat → Option En} {o : Out} (hc : ∀ mid as M o, call mid as M o → M.1.length ≤ o.2.1.length ∧ szs M ≤ szs o.2) : ∀ (n pc : Nat) (L : Lc) (st : List Value) (M : Mm), EvF ft X call rt cd o n pc L st M → M.1.length ≤ o.2.1.length ∧ szs M ≤ szs o.2 := by
  intro n
  induction n with
  | zero => intro pc L st M h; exact h.elim
  | succ n ih =>
    intro pc L st M h
    rcases h with ⟨L', -, h⟩ | ⟨e, -, ⟨x, -, h⟩ | ⟨v, -, rfl⟩ | ⟨c, -, o1, h1, h2⟩⟩
    · exact ih _ _ _ _ h
    · have a1 := ih _ _ _ _ h
      have a2 := apA_mono M x.2.2.2
      exact ⟨Nat.le_trans a2.1 a1.1, Nat.le_trans a2.2 a1.2⟩
    · exact ⟨Nat.le_refl _, Nat.le_refl _⟩
    · have a1 := hc _ _ _ _ h1
      have a2 := ih _ _ _ _ h2
      exact ⟨Nat.le_trans a1.1 a2.1, Nat.le_trans a1.2 a2.2⟩
theorem EvM_mono {ft : List (List Nat)} {mt : List Mi} {X : Xx} : ∀ (d mid : Nat) (as : List Value) (M : Mm) (o : Out), EvM ft mt X d mid as M o → M.1.length ≤ o.2.1.length ∧ szs M ≤ szs o.2 := by
  intro d
  induction d with
  | zero => intro mid as M o h; exact h.elim
  | succ d ih =>
    intro mid as M o h
    obtain ⟨mi, -, -, n, h⟩ := h
    exact EvF_mono ih _ _ _ _ _ h
section ZS
variable {p : Program} {l : Launch} {e : Env} {R : Room} {s : State} {m : MethodId} {args : Array Value} {below : List Frame} {meth : Method} {c : Code} {H : Heap} {locs : List Loc} {cells slots : Nat} {Q : State → Prop}
variable {cc : ByteArray} {pc nL len : Nat} {ls : Array Slot} {own nm : String} {Ts : List Jvm.Cond} {D : va_G} {B : Nat} {E : Nat → Nat} {cA : Nat → ClassId} {X : Xx} {M : Mm} {L : Lc} {st : List Value} {au : List Nat} {v : Int} {x : Nx} {en : En}
/-- a call's goal, out of its run -/
theorem callz {o1 : Out} {r : List Value} {st0 : List Value} {mc ms : Nat} {a : Array Value} (hr : va_Run p l e R s m args below meth c H locs cells slots mc ms (F0 m pc ls st0) (r.map (rl (zad B E))) (Qz D B E cA o1 a) (fun q => B ≤ q)) (hS : va_S (fun q => B ≤ q) s.heap H locs)
    (kk : ∀ (H1 : Heap) (locs1 : List Loc), Rel D (zad B E) B cA o1.2 H1 → va_S (fun q => B ≤ q) s.heap H1 locs1 → W p l e R s m args below meth c H1 locs1 (cells + mc) (slots + ms) Q (F0 m (pc + 3) ls ((o1.1.toList ++ r).map (rl (zad B E))))) : W p l e R s m args below meth c H locs cells slots Q (F0 m pc ls st0) := by
  intro T hT X
  obtain ⟨v, st₀, t, T', L, h0, X', hL, e1, e2, ⟨hv, hrel, hz, hk⟩, st⟩ := hr T hT X
  have hv' : v = o1.1.map (rl (zad B E)) := by cases hv; rfl
  subst hv'
  rw [h0] at hz hk
  obtain ⟨t2, a1, b1⟩ := kk T'.heap (locs ++ L) (by rw [e1]; exact hrel)
    ⟨Nat.le_trans hS.1 (by rw [e1]; exact hz), fun q h1 h2 => by rw [e1, hk q (Nat.lt_of_lt_of_le h1 hS.1) h2]; exact hS.2.1 q h1 h2, fun q hq => by
      rcases List.mem_append.mp hq with h | h
      · exact hS.2.2 q h
      · exact hL q h⟩ T' rfl X'
  refine ⟨t2, st t2 ?_, b1⟩
  have e9 : (o1.1.map (rl (zad B E))).toList ++ r.map (rl (zad B E)) = (o1.1.toList ++ r).map (rl (zad B E)) := by
    rw [List.map_append]; cases o1.1 <;> rfl
  rw [← e9] at a1
  exact a1
theorem Pz_blind {as : List Value} : FrameBlind (Pz D B E cA X as M) := fun a U g mk q => ⟨q.1, q.2.1.call g mk a, q.2.2⟩
theorem Pz_at {as : List Value} (hG : Good D B E cA X s) (hR : Rel D (zad B E) B cA M H) (hS : va_S (fun q => B ≤ q) s.heap H locs) : ∀ U : State, U.heap = H → s.WarmedH U.vm → Pz D B E cA X as M (as.map (rl (zad B E))).toArray U := fun U hU hW => ⟨rfl, hG.go hW (by rw [hU]; exact hS.1) (fun q h1 h2 => by rw [hU]; exact hS.2.1 q h1 h2), by rw [hU]; exact hR⟩
theorem recvz {rc b t n : Nat} {rs : List (Option Nat)} {cn : String} (hG : Good D B E cA X s) (hR : Rel D (zad B E) B cA M H) (hS : va_S (fun q => B ≤ q) s.heap H locs) (hsh : shOf X M b = some (t, n, rs)) (ht : t = 10 + rc) (hcn : (if rc = 40 then some "java/lang/String" else (zcl[rc]?).map (·.1)) = some cn) : ∃ cellB : Cell, H[zad B E b]? = some cellB ∧ cellB.vm.isStatics = false ∧ s.vm.findClass cn = some cellB.cls := by
  subst ht
  by_cases hb : b < 1000
  · rw [shOf_lo hb] at hsh
    have he := wld_get (f := zad B E) (B := B) (cA := cA) hsh
    rw [ent_obj] at he
    rw [zad, if_pos hb]
    obtain ⟨q', h1, cell, g1, g2, g3, g4⟩ := hR.1 b _ he
    have h40 : ¬ rc = 40 := by
      intro e9
      have h1' : zcl[rc]? = some q' := h1
      rw [e9] at h1'
      exact absurd h1' (by simp [zcl])
    have h1' : zcl[rc]? = some q' := h1
    rw [if_neg h40, h1'] at hcn
    cases hcn
    exact ⟨cell, g1, by rw [g3]; rfl, by rw [g2]; exact (hG.1.1 rc q' h1).2.1⟩
  · rw [shOf_hi hb] at hsh
    obtain ⟨rfl, -, j, hj, rfl, -⟩ := xsh_50 hsh
    rw [if_pos rfl] at hcn
    cases hcn
    rw [zad, if_neg hb]
    exact vk_recv (N := 12) (adK := fun i => E (1010 + i)) (i := j) hG.2.2.2.2.2.2.2.2.2.2.1 hj hS
theorem GoodIn_wsz {mid : Nat} {mi : Mi} (hm : mtl[mid]? = some mi) (hlt : mid < 240) (hin : ∀ w ∈ lw_tbl, goodWord w = true → w ∈ Ts) : GoodIn Ts (wsz mi) := by
  have hU : ∀ w ∈ UNI, w ∈ Ts ∧ goodWord w = true := fun w hw => by
    have := List.mem_filter.mp hw
    exact ⟨hin w this.1 this.2, this.2⟩
  intro w hw
  rcases List.mem_cons.mp hw with rfl | hw
  · exact ⟨(hU _ (code_in hm hlt)).1, good_of_word (hU _ (code_in hm hlt)).2⟩
  · exact ⟨(hU _ hw).1, good_of_word (hU _ hw).2⟩
theorem split_args {n : Nat} {as : List Value} (h : (st.take n).reverse = as) : st.map (rl (zad B E)) = (as.map (rl (zad B E))).reverse ++ (st.drop n).map (rl (zad B E)) := by
  rw [← List.map_reverse, ← h, List.reverse_reverse, ← List.map_append, List.take_append_drop]
end ZS
