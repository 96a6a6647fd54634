abbrev SimAll (RR : Sg → Prop) : Prop := Sim_node RR ∧ Sim_channel RR ∧ Sim_size RR ∧ Sim_broken RR ∧ Sim_open RR ∧ Sim_path RR ∧ Sim_along RR ∧ Sim_go RR ∧ Sim_about RR ∧ Sim_look RR ∧ Sim_all RR ∧ Sim_field RR ∧ Sim_deed RR ∧ Sim_annul RR ∧ Sim_written RR ∧ Sim_owner RR ∧ Sim_ran RR ∧ Sim_owed RR ∧ Sim_feed RR ∧ Sim_end RR ∧ Sim_statute RR ∧ Sim_fault RR ∧ Sim_dry RR ∧ Sim_holder RR ∧ Sim_duty RR ∧ Sim_lay RR ∧ Sim_laid RR ∧ Sim_gauge RR ∧ Sim_stolen RR ∧ Sim_count RR ∧ Sim_image RR ∧ Sim_again RR
set_option maxRecDepth 40000 in
theorem lwSw {X : Xx} {t : Nat} {g : Sg} {y : Int32} {off : Int} {T : Nat} (hX : X.1 ≤ 3584) (ht : t + 7 ≤ X.1) (h : X.2.1 t &&& 31 = y) (hf : twf 1359 0 31 #[143, 176, 251, 284, 333, 366, 399, 442, 465, 498, 531, 580, 613, 666, 689, 722, 765, 788, 811, 874, 897, 910, 933, 982, 1025, 1068, 1131, 1194, 1247, 1290, 1313, 1336] y.toInt = some off) (hT : tg 33 off = some T) (hk : Nd X T t g) : Nd X 27 t g := by
  obtain ⟨g9, h9⟩ := hk
  refine ⟨g9, ?_⟩
  refine L_s (pc' := 28) rfl rfl ?_
  refine L_s (pc' := 29) rfl rfl ?_
  refine L_sc (pc' := 30) rfl (ix_ok0 hX (by omega)) rfl ?_
  refine L_bi (pc' := 32) rfl q2_31 rfl ?_
  refine L_s (pc' := 33) (st' := [.int (X.2.1 t &&& 31)]) rfl rfl ?_
  rw [h]
  exact L_ts rfl hf hT h9
set_option maxRecDepth 40000 in
theorem lwAll {RR : Sg → Prop} (H : SimAll RR) {X : Xx} {t : Nat} {g : Sg} (hX : X.1 ≤ 3584) (ht : t + 7 ≤ X.1) (hR : RR g) (hn : ∀ g2, RR g2 → Nd X 1392 t g2) : ∀ k : Nat, k < 32 → X.2.1 t &&& 31 = Int32.ofNat k → Nd X 27 t g
  | 0, _, h => by
    refine lwSw hX ht h (by decide) (off := 143) rfl ?_
    exact lw_node H.1 hX ht hR hn
  | 1, _, h => by
    refine lwSw hX ht h (by decide) (off := 176) rfl ?_
    exact lw_channel H.2.1 hX ht hR hn
  | 2, _, h => by
    refine lwSw hX ht h (by decide) (off := 251) rfl ?_
    exact lw_size H.2.2.1 hX ht hR hn
  | 3, _, h => by
    refine lwSw hX ht h (by decide) (off := 284) rfl ?_
    exact lw_broken H.2.2.2.1 hX ht hR hn
  | 4, _, h => by
    refine lwSw hX ht h (by decide) (off := 333) rfl ?_
    exact lw_open H.2.2.2.2.1 hX ht hR hn
  | 5, _, h => by
    refine lwSw hX ht h (by decide) (off := 366) rfl ?_
    exact lw_path H.2.2.2.2.2.1 hX ht hR hn
  | 6, _, h => by
    refine lwSw hX ht h (by decide) (off := 399) rfl ?_
    exact lw_along H.2.2.2.2.2.2.1 hX ht hR hn
  | 7, _, h => by
    refine lwSw hX ht h (by decide) (off := 442) rfl ?_
    exact lw_go H.2.2.2.2.2.2.2.1 hX ht hR hn
  | 8, _, h => by
    refine lwSw hX ht h (by decide) (off := 465) rfl ?_
    exact lw_about H.2.2.2.2.2.2.2.2.1 hX ht hR hn
  | 9, _, h => by
    refine lwSw hX ht h (by decide) (off := 498) rfl ?_
    exact lw_look H.2.2.2.2.2.2.2.2.2.1 hX ht hR hn
  | 10, _, h => by
    refine lwSw hX ht h (by decide) (off := 531) rfl ?_
    exact lw_all H.2.2.2.2.2.2.2.2.2.2.1 hX ht hR hn
  | 11, _, h => by
    refine lwSw hX ht h (by decide) (off := 580) rfl ?_
    exact lw_field H.2.2.2.2.2.2.2.2.2.2.2.1 hX ht hR hn
  | 12, _, h => by
    refine lwSw hX ht h (by decide) (off := 613) rfl ?_
    exact lw_deed H.2.2.2.2.2.2.2.2.2.2.2.2.1 hX ht hR hn
  | 13, _, h => by
    refine lwSw hX ht h (by decide) (off := 666) rfl ?_
    exact lw_annul H.2.2.2.2.2.2.2.2.2.2.2.2.2.1 hX ht hR hn
  | 14, _, h => by
    refine lwSw hX ht h (by decide) (off := 689) rfl ?_
    exact lw_written H.2.2.2.2.2.2.2.2.2.2.2.2.2.2.1 hX ht hR hn
  | 15, _, h => by
    refine lwSw hX ht h (by decide) (off := 722) rfl ?_
    exact lw_owner H.2.2.2.2.2.2.2.2.2.2.2.2.2.2.2.1 hX ht hR hn
  | 16, _, h => by
    refine lwSw hX ht h (by decide) (off := 765) rfl ?_
    exact lw_ran H.2.2.2.2.2.2.2.2.2.2.2.2.2.2.2.2.1 hX ht hR hn
  | 17, _, h => by
    refine lwSw hX ht h (by decide) (off := 788) rfl ?_
    exact lw_owed H.2.2.2.2.2.2.2.2.2.2.2.2.2.2.2.2.2.1 hX ht hR hn
  | 18, _, h => by
    refine lwSw hX ht h (by decide) (off := 811) rfl ?_
    exact lw_feed H.2.2.2.2.2.2.2.2.2.2.2.2.2.2.2.2.2.2.1 hX ht hR hn
  | 19, _, h => by
    refine lwSw hX ht h (by decide) (off := 874) rfl ?_
    exact lw_end H.2.2.2.2.2.2.2.2.2.2.2.2.2.2.2.2.2.2.2.1 hX ht hR hn
  | 20, _, h => by
    refine lwSw hX ht h (by decide) (off := 897) rfl ?_
    exact lw_statute H.2.2.2.2.2.2.2.2.2.2.2.2.2.2.2.2.2.2.2.2.1 hX ht hR hn
  | 21, _, h => by
    refine lwSw hX ht h (by decide) (off := 910) rfl ?_
    exact lw_fault H.2.2.2.2.2.2.2.2.2.2.2.2.2.2.2.2.2.2.2.2.2.1 hX ht hR hn
  | 22, _, h => by
    refine lwSw hX ht h (by decide) (off := 933) rfl ?_
    exact lw_dry H.2.2.2.2.2.2.2.2.2.2.2.2.2.2.2.2.2.2.2.2.2.2.1 hX ht hR hn
  | 23, _, h => by
    refine lwSw hX ht h (by decide) (off := 982) rfl ?_
    exact lw_holder H.2.2.2.2.2.2.2.2.2.2.2.2.2.2.2.2.2.2.2.2.2.2.2.1 hX ht hR hn
  | 24, _, h => by
    refine lwSw hX ht h (by decide) (off := 1025) rfl ?_
    exact lw_duty H.2.2.2.2.2.2.2.2.2.2.2.2.2.2.2.2.2.2.2.2.2.2.2.2.1 hX ht hR hn
  | 25, _, h => by
    refine lwSw hX ht h (by decide) (off := 1068) rfl ?_
    exact lw_lay H.2.2.2.2.2.2.2.2.2.2.2.2.2.2.2.2.2.2.2.2.2.2.2.2.2.1 hX ht hR hn
  | 26, _, h => by
    refine lwSw hX ht h (by decide) (off := 1131) rfl ?_
    exact lw_laid H.2.2.2.2.2.2.2.2.2.2.2.2.2.2.2.2.2.2.2.2.2.2.2.2.2.2.1 hX ht hR hn
  | 27, _, h => by
    refine lwSw hX ht h (by decide) (off := 1194) rfl ?_
    exact lw_gauge H.2.2.2.2.2.2.2.2.2.2.2.2.2.2.2.2.2.2.2.2.2.2.2.2.2.2.2.1 hX ht hR hn
  | 28, _, h => by
    refine lwSw hX ht h (by decide) (off := 1247) rfl ?_
    exact lw_stolen H.2.2.2.2.2.2.2.2.2.2.2.2.2.2.2.2.2.2.2.2.2.2.2.2.2.2.2.2.1 hX ht hR hn
  | 29, _, h => by
    refine lwSw hX ht h (by decide) (off := 1290) rfl ?_
    exact lw_count H.2.2.2.2.2.2.2.2.2.2.2.2.2.2.2.2.2.2.2.2.2.2.2.2.2.2.2.2.2.1 hX ht hR hn
  | 30, _, h => by
    refine lwSw hX ht h (by decide) (off := 1313) rfl ?_
    exact lw_image H.2.2.2.2.2.2.2.2.2.2.2.2.2.2.2.2.2.2.2.2.2.2.2.2.2.2.2.2.2.2.1 hX ht hR hn
  | 31, _, h => by
    refine lwSw hX ht h (by decide) (off := 1336) rfl ?_
    exact lw_again H.2.2.2.2.2.2.2.2.2.2.2.2.2.2.2.2.2.2.2.2.2.2.2.2.2.2.2.2.2.2.2 hX ht hR hn
  | k + 32, hk, _ => absurd hk (by omega)
set_option maxRecDepth 40000 in
theorem lwLoop {RR : Sg → Prop} (H : SimAll RR) {X : Xx} (hX : X.1 ≤ 3584) : ∀ (n t : Nat) (g : Sg), t ≤ X.1 → X.1 - t ≤ n → RR g → Nd X 18 t g := by
  intro n
  induction n with
  | zero =>
    intro t g h1 h2 hR
    refine ⟨g, ?_⟩
    refine L_s (pc' := 19) rfl rfl ?_
    refine L_s (pc' := 20) rfl rfl ?_
    refine L_s (pc' := 21) (st' := [.int (Int32.ofNat X.1), .int (Int32.ofNat t)]) rfl rfl ?_
    refine L_bi (pc' := 23) rfl q2_7 rfl ?_
    refine L_s (pc' := 24) rfl rfl ?_
    refine L_bt (c := Int32.ofNat X.1 - 7 < Int32.ofNat t) (t := 1398) (n := 27) rfl rfl (lwC hX h1 (by omega)) ?_
    refine L_ic (pc' := 1399) rfl q1_1 rfl ?_
    exact L_ret rfl (ret_z (by decide)) rfl
  | succ n ih =>
    intro t g h1 h2 hR
    by_cases ht : t + 7 ≤ X.1
    · obtain ⟨k, hk, h⟩ := and31 (X.2.1 t)
      obtain ⟨g9, h9⟩ := lwAll H hX ht hR (fun g2 hR2 => by
        obtain ⟨g9, h9⟩ := ih (t + 7) g2 ht (by omega) hR2
        refine ⟨g9, ?_⟩
        have e7 : Int32.ofNat (t + 7) = Int32.ofNat t + Int32.ofInt 7 := Int32.ofNat_add t 7
        refine L_s (pc' := 1395) (L' := [some (.ref 1000), some (.ref 0), some (.ref 215), some (.int (Int32.ofNat t + Int32.ofInt 7))]) rfl rfl ?_
        refine L_s (pc' := 18) rfl rfl ?_
        rw [← e7]
        exact h9) k hk h
      refine ⟨g9, ?_⟩
      refine L_s (pc' := 19) rfl rfl ?_
      refine L_s (pc' := 20) rfl rfl ?_
      refine L_s (pc' := 21) (st' := [.int (Int32.ofNat X.1), .int (Int32.ofNat t)]) rfl rfl ?_
      refine L_bi (pc' := 23) rfl q2_7 rfl ?_
      refine L_s (pc' := 24) rfl rfl ?_
      exact L_bf (c := Int32.ofNat X.1 - 7 < Int32.ofNat t) (t := 1398) (n := 27) rfl rfl (lwD hX ht) h9
    · refine ⟨g, ?_⟩
      refine L_s (pc' := 19) rfl rfl ?_
      refine L_s (pc' := 20) rfl rfl ?_
      refine L_s (pc' := 21) (st' := [.int (Int32.ofNat X.1), .int (Int32.ofNat t)]) rfl rfl ?_
      refine L_bi (pc' := 23) rfl q2_7 rfl ?_
      refine L_s (pc' := 24) rfl rfl ?_
      refine L_bt (c := Int32.ofNat X.1 - 7 < Int32.ofNat t) (t := 1398) (n := 27) rfl rfl (lwC hX h1 ht) ?_
      refine L_ic (pc' := 1399) rfl q1_1 rfl ?_
      exact L_ret rfl (ret_z (by decide)) rfl
set_option maxRecDepth 40000 in
theorem F_s {X : Xx} {call : Cl} {rt : Option FieldType} {cd : Nat → Option En} {o : Out} {n pc : Nat} {L : Lc} {st : List Value} {M : Mm} {e : En} {x : Nx} (hc : cd pc = some e) (hp : pcore zft X e pc L st M = some x) (h : EvF zft X call rt cd o n x.1 x.2.1 x.2.2.1 (apA M x.2.2.2)) : EvF zft X call rt cd o (n + 1) pc L st M := Or.inr ⟨e, hc, Or.inl ⟨x, hp, h⟩⟩
set_option maxRecDepth 40000 in
theorem F_c {X : Xx} {call : Cl} {rt : Option FieldType} {cd : Nat → Option En} {o o1 : Out} {n pc : Nat} {L : Lc} {st : List Value} {M : Mm} {e : En} {c : Nat × List Value × List Value} (hc : cd pc = some e) (hk : callOf X M e st = some c) (hcall : call c.1 c.2.1 M o1) (h : EvF zft X call rt cd o n (pc + 3) L (o1.1.toList ++ c.2.2) o1.2) : EvF zft X call rt cd o (n + 1) pc L st M := Or.inr ⟨e, hc, Or.inr (Or.inr ⟨c, hk, o1, hcall, h⟩)⟩
set_option maxRecDepth 40000 in
theorem law_of {RR : Sg → Prop} (H : SimAll RR) (h0 : RR g00) : LawOk := by
  intro X hX
  obtain ⟨g9, h9⟩ := lwLoop H hX X.1 0 g00 (Nat.zero_le _) (by omega) h0
  obtain ⟨n, hn⟩ := h9 g9 rfl
  refine ⟨n + 10, (SHF, g9), ?_, show SHF.length ≤ 600000 by decide +kernel, show szs (SHF, fun _ _ => 0) ≤ 7302250 by decide +kernel⟩
  refine F_s (x := (3, [some (.ref 1000), none, none, none], [.ref 0], some (.inl [(21, 7, List.replicate 7 none)]))) rfl rfl ?_
  refine F_s (x := (4, [some (.ref 1000), none, none, none], [.ref 0, .ref 0], none)) rfl rfl ?_
  refine F_c (c := (106, [.ref 0], [.ref 0])) (o1 := (none, (SHA, rd LGA))) rfl rfl ev_x ?_
  refine F_s (x := (8, [some (.ref 1000), some (.ref 0), none, none], [], none)) rfl rfl ?_
  refine F_s (x := (11, [some (.ref 1000), some (.ref 0), none, none], [.ref 215], some (.inl [(22, 33, List.replicate 33 none)]))) rfl rfl ?_
  refine F_s (x := (12, [some (.ref 1000), some (.ref 0), none, none], [.ref 215, .ref 215], none)) rfl rfl ?_
  refine F_c (c := (148, [.ref 215], [.ref 215])) (o1 := (none, (SHF, g00))) rfl rfl ev_m ?_
  refine F_s (x := (16, [some (.ref 1000), some (.ref 0), some (.ref 215), none], [], none)) rfl rfl ?_
  refine F_s (x := (17, [some (.ref 1000), some (.ref 0), some (.ref 215), none], [.int 0], none)) rfl rfl ?_
  refine F_s (x := (18, LL 0, [], none)) rfl rfl ?_
  exact hn
