section
def FLp_Otf : List ((Nat × Nat × Nat) × Nat) := [((11, 4, 0), 283), ((17, 4, 1), 285), ((30, 5, 4), 254), ((41, 5, 3), 250), ((60, 8, 7), 425), ((66, 5, 6), 261), ((98, 8, 4), 416), ((102, 8, 5), 419), ((105, 8, 6), 422), ((108, 5, 5), 258), ((111, 5, 2), 249), ((114, 5, 0), 245)]
def FL_Otf : List (Nat × Nat × Nat) := [(11, 4, 0), (17, 4, 1), (30, 5, 4), (41, 5, 3), (60, 8, 7), (66, 5, 6), (98, 8, 4), (102, 8, 5), (105, 8, 6), (108, 5, 5), (111, 5, 2), (114, 5, 0)]
theorem fl_Otf : ∀ q ∈ FL_Otf, ab_fld CL ab_gW "StreamTransport$Outflow" q.1 q.2.1 q.2.2 := ab_flb_ok (own := "StreamTransport$Outflow") (l := FLp_Otf) (by decide +kernel)
def FPnp_Otf : List ((Nat × Nat × Nat) × Nat) := [((17, 4, 1), 285), ((30, 5, 4), 254), ((41, 5, 3), 250), ((66, 5, 6), 261), ((108, 5, 5), 258), ((111, 5, 2), 249)]
def FPn_Otf : List (Nat × Nat × Nat) := [(17, 4, 1), (30, 5, 4), (41, 5, 3), (66, 5, 6), (108, 5, 5), (111, 5, 2)]
theorem fpn_Otf (nm : String) : ∀ q ∈ FPn_Otf, ∃ ty, ab_fldp CL ab_gW "StreamTransport$Outflow" nm q.1 q.2.1 q.2.2 ty ∧ ∀ (k t r k' d' : Nat), ab_fs KT q.2.1 q.2.2 k = some (t, r, k', d') → (t = 0 → ty = .int) ∧ (t = 1 → ty = .boolean) ∧ (t = 2 → ((∃ n, ty = .object n) ∨ ∃ t, ty = .array t) ∧ k' ≠ 0) := ab_fpb_ok (own := "StreamTransport$Outflow") (nm := nm) (l := FPnp_Otf) (ab_fpn_ok (by decide +kernel))
def FPip_Otf : List ((Nat × Nat × Nat) × Nat) := [((11, 4, 0), 283), ((17, 4, 1), 285), ((30, 5, 4), 254), ((41, 5, 3), 250), ((66, 5, 6), 261), ((108, 5, 5), 258), ((111, 5, 2), 249)]
def FPi_Otf : List (Nat × Nat × Nat) := [(11, 4, 0), (17, 4, 1), (30, 5, 4), (41, 5, 3), (66, 5, 6), (108, 5, 5), (111, 5, 2)]
theorem fpi_Otf : ∀ q ∈ FPi_Otf, ∃ ty, ab_fldp CL ab_gW "StreamTransport$Outflow" "<init>" q.1 q.2.1 q.2.2 ty ∧ ∀ (k t r k' d' : Nat), ab_fs KT q.2.1 q.2.2 k = some (t, r, k', d') → (t = 0 → ty = .int) ∧ (t = 1 → ty = .boolean) ∧ (t = 2 → ((∃ n, ty = .object n) ∨ ∃ t, ty = .array t) ∧ k' ≠ 0) := ab_fpb_ok (own := "StreamTransport$Outflow") (nm := "<init>") (l := FPip_Otf) (by decide +kernel)
def LCp_Otf : List ((Nat × Int32) × Nat) := []
def LC_Otf : List (Nat × Int32) := []
theorem lc_Otf : ∀ q ∈ LC_Otf, Cond.constant "StreamTransport$Outflow" q.1 q.2 ∈ ab_gW := ab_lcb (own := "StreamTransport$Outflow") (l := LCp_Otf) (by decide +kernel)
def LJp_Otf : List ((Nat × Nat) × Nat) := []
def LJ_Otf : List (Nat × Nat) := []
theorem lj_Otf : ∀ q ∈ LJ_Otf, Cond.constantLong "StreamTransport$Outflow" q.1 (Int64.ofNat q.2) ∈ ab_gW := ab_ljb (own := "StreamTransport$Outflow") (l := LJp_Otf) (by decide +kernel)
def NWp_Otf : List ((Nat × Nat) × Nat × Nat × Nat) := [((9, 81), 237, 239, 70)]
def NW_Otf : List (Nat × Nat) := [(9, 81)]
theorem nw_Otf : ∀ q ∈ NW_Otf, ab_newok KT CL ab_gW "StreamTransport$Outflow" q.1 q.2 := ab_nwb_ok (own := "StreamTransport$Outflow") (l := NWp_Otf) (by decide +kernel)
def NQp_Otf : List ((Nat × Nat) × Nat) := [((9, 80), 237)]
def NQ_Otf : List (Nat × Nat) := [(9, 80)]
theorem nq_Otf : ∀ q ∈ NQ_Otf, ab_nqok KT CL ab_gW "StreamTransport$Outflow" q.1 q.2 := ab_nqb_ok (own := "StreamTransport$Outflow") (l := NQp_Otf) (by decide +kernel)
def NA_Otf : List (Nat × Nat) := []
theorem na_Otf : ∀ q ∈ NA_Otf, (q.1 = 0 → ab_naok KT CL ab_gW .int q.2) ∧ (q.1 = 1 → ab_naok KT CL ab_gW .boolean q.2) ∧ (q.1 = 2 → ab_naok KT CL ab_gW .long q.2) := ab_nab_ok (by decide +kernel)
/-! StreamTransport$Outflow.raiseAll(I)V -/
def y_Otf_raiseAll : MethodName := ⟨"StreamTransport$Outflow", "raiseAll", "(I)V"⟩
def t_Otf_raiseAll (pc : Nat) : Option Ent :=
  bif Nat.blt pc 5 then
    (bif Nat.blt pc 1 then
      (bif Nat.beq pc 0 then some (.aload_n 0, 0, 0, 0, 0) else none)
    else
      bif Nat.blt pc 2 then
        (bif Nat.beq pc 1 then some (.aload_n 0, 0, 0, 0, 0) else none)
      else
        bif Nat.beq pc 2 then some (.getfield 17, 4, 1, 0, 0) else none)
  else
    bif Nat.blt pc 9 then
      (bif Nat.blt pc 6 then
        (bif Nat.beq pc 5 then some (.iload_n 1, 1, 0, 0, 0) else none)
      else
        bif Nat.beq pc 6 then some (.invokestatic 24, 1, 2, 1, 0) else none)
    else
      bif Nat.blt pc 12 then
        (bif Nat.beq pc 9 then some (.putfield 17, 4, 1, 0, 0) else none)
      else
        bif Nat.beq pc 12 then some (.return_, 0, 0, 0, 0) else none
def i_Otf_raiseAll : Nat → Option Ent := ab_tab 13 t_Otf_raiseAll
def h_Otf_raiseAll (pc : Nat) : Nat × List Bool := (0, [])
def s_Otf_raiseAll (pc : Nat) : List (Int32 × Nat) × Nat := ([], 0)
noncomputable def eV_Otf_raiseAll : Nat → List AV → Mm → Option Mm := ab_ev []
noncomputable def eI_Otf_raiseAll : Nat → List AV → Mm → Option (Int32 × Mm) := ab_ev [(1, c_Math_max)]
noncomputable def b_Otf_raiseAll_0 (f : Nat) (v0 : Nat) (v1 : Int32) (m : Mm) : Option Rs := ab_ex KT none s_Otf_raiseAll eV_Otf_raiseAll eI_Otf_raiseAll i_Otf_raiseAll h_Otf_raiseAll f 0 [some (.inr (.inr (17, some v0))), some (.inl v1)] [] m
set_option maxRecDepth 100000 in
set_option maxHeartbeats 4000000 in
theorem b_Otf_raiseAll_0_eq (f : Nat) (v0 : Nat) (v1 : Int32) (m : Mm) : b_Otf_raiseAll_0 (f + 1) v0 v1 m =
    (r_Math_max (m.1 55 v0 0) v1 m).bind fun z1 =>
    ab_let (ab_uI z1.2 55 v0 0 z1.1) fun m2 =>
    some (.inl (none, m2)) := rfl
noncomputable def r_Otf_raiseAll : Nat → Int32 → Mm → Option Mm := ab_seal fun v0 v1 m => ab_rV (b_Otf_raiseAll_0 50000 v0 v1 m)
theorem r_Otf_raiseAll_eq (v0 : Nat) (v1 : Int32) (m : Mm) : r_Otf_raiseAll v0 v1 m = ab_rV (b_Otf_raiseAll_0 50000 v0 v1 m) := by
  unfold r_Otf_raiseAll
  rw [ab_seal_eq]
noncomputable def c_Otf_raiseAll : List AV → Mm → Option Mm := fun av m => match av with
  | [.inr (.inr (kv0, ov0)), .inl v1] => if kv0 = 17 then (ov0.bind fun v0 => r_Otf_raiseAll v0 v1 m) else none
  | _ => none
theorem c_Otf_raiseAll_inv {av : List AV} {m : Mm} {r : Mm} (h : c_Otf_raiseAll av m = some r) : ∃ (v0 : Nat) (v1 : Int32), av = [.inr (.inr (17, some v0)), .inl v1] ∧ r_Otf_raiseAll v0 v1 m = some r := by
  unfold c_Otf_raiseAll at h
  split at h
  · rename_i kv0 ov0 v1
    by_cases hkv0 : kv0 = 17
    case neg => rw [if_neg hkv0] at h; cases h
    rw [if_pos hkv0] at h
    subst hkv0
    obtain ⟨v0, hev0, h⟩ := Option.bind_eq_some_iff.mp h
    subst hev0
    exact ⟨v0, v1, rfl, h⟩
  · cases h
def cs_Otf_raiseAll : List Nat := [6]
set_option maxRecDepth 100000 in
theorem E_Otf_raiseAll : ∀ (pc : Nat) (q : Ent), i_Otf_raiseAll pc = some q → ab_E KT CL ab_gW "StreamTransport$Outflow" "raiseAll" none prog_6_method_2_code s_Otf_raiseAll 2 pc q.1 q.2.1 q.2.2.1 q.2.2.2.1 q.2.2.2.2 := fun pc q hq =>
  ab_Eb_ok lc_Otf lj_Otf fl_Otf (fpn_Otf "raiseAll") nw_Otf na_Otf nq_Otf (ab_tab_all (t := t_Otf_raiseAll) (chk := fun pc q => ab_Eb none prog_6_method_2_code s_Otf_raiseAll 2 LC_Otf LJ_Otf FL_Otf FPn_Otf NW_Otf NA_Otf NQ_Otf pc q.1 q.2.1 q.2.2.1 q.2.2.2.1 q.2.2.2.2) (by decide +kernel) hq)
set_option maxRecDepth 100000 in
theorem kp_Otf_raiseAll {av : List AV} {m : Mm} {r : Mm} (h : c_Otf_raiseAll av m = some r) : ab_kp m r := by
  obtain ⟨v0, v1, -, h⟩ := c_Otf_raiseAll_inv h
  rw [r_Otf_raiseAll_eq] at h
  have hV : ∀ a av m m', eV_Otf_raiseAll a av m = some m' → ab_kp m m' := ab_ev_all (P := fun _ m r => ab_kp m r) [] (fun q hq => by cases hq)
  have hI : ∀ a av m q, eI_Otf_raiseAll a av m = some q → ab_kp m q.2 := ab_ev_all (P := fun _ (m : Mm) (r : Int32 × Mm) => ab_kp m r.2) [(1, c_Math_max)] (List.forall_mem_cons.mpr ⟨fun av m r h => kp_Math_max h, fun q hq => by cases hq⟩)
  exact ab_kprel (ρ := .inl (none, r)) (ab_tab_isn (t := t_Otf_raiseAll) (by decide +kernel)) hV hI (ab_rV_inv h)
set_option maxRecDepth 100000 in
theorem cl_Otf_raiseAll (l : Launch) : ∀ (pc : Nat) (q : Ent), i_Otf_raiseAll pc = some q → ab_inv q.1 = true → ab_CR l KT CL none ab_gW "StreamTransport$Outflow" prog_6_method_2_code 2 1 21 eV_Otf_raiseAll eI_Otf_raiseAll pc q := by
  intro pc q hq hi
  have hm : pc ∈ cs_Otf_raiseAll := ab_tab_cs (t := t_Otf_raiseAll) (by decide +kernel) hq hi
  simp only [cs_Otf_raiseAll, List.mem_cons, List.not_mem_nil, or_false] at hm
  rcases hm with rfl
  · cases (Option.some.inj hq : ((.invokestatic 24, 1, 2, 1, 0) : Ent) = q)
    exact ab_crS (by decide +kernel) cw_Math_max (ab_gW_in 558 (by decide +kernel) rfl) st_Math_max (by decide) (fun av m m' h => by cases h) (fun av m r h => cm_Math_max l h) KT_nd
theorem cw_Otf_raiseAll : ab_cw y_Otf_raiseAll prog_6_method_2_code 2 1 none := ⟨ab_gW_in 750 (by decide +kernel) rfl, ab_gW_in 69 (by decide +kernel) rfl, by decide +kernel, by decide +kernel, by decide +kernel⟩
theorem is_Otf_raiseAll : Cond.instanceMethod y_Otf_raiseAll ∈ ab_gW := ab_gW_in 748 (by decide +kernel) rfl
theorem sl_Otf_raiseAll : Cond.selects "StreamTransport$Outflow" y_Otf_raiseAll y_Otf_raiseAll ∈ ab_gW := ab_gW_in 749 (by decide +kernel) rfl
set_option maxRecDepth 100000 in
theorem cm_Otf_raiseAll (l : Launch) {av : List AV} {m : Mm} {r : Mm} (h0 : c_Otf_raiseAll av m = some r) : ∃ (k q : Nat) (av' : List AV) (ci : Nat) (fs : List (Nat × Nat × Nat × Nat)) (z : vw_C), av = .inr (.inr (k, some q)) :: av' ∧ av'.length = 1 ∧ k ≠ 0 ∧ KT[k]? = some (.inl (ci, fs)) ∧ CL[ci]? = some z ∧ z.1 = "StreamTransport$Outflow" ∧ ab_nos av' ∧ ab_Met l KT CL y_Otf_raiseAll (Cond.code y_Otf_raiseAll prog_6_method_2_code 2 none :: ab_gW) 1 21 none av m none r := by
  obtain ⟨v0, v1, hav, h⟩ := c_Otf_raiseAll_inv h0
  rw [r_Otf_raiseAll_eq] at h
  have hmo : ab_mo m r := ab_kp_mo (kp_Otf_raiseAll h0)
  subst hav
  exact ⟨_, _, _, _, _, _, rfl, rfl, by decide, rfl, rfl, rfl, (by intro v hv q e; subst e; simp at hv), ab_met (by decide +kernel) KT_0 KT_nd KT_k3 E_Otf_raiseAll (cl_Otf_raiseAll l) hmo (Nat.le_of_ble_eq_true rfl) (ab_rV_inv h) (fun v hv => by cases hv)⟩
/-! StreamTransport$Outflow.raiseOne(II)I -/
def y_Otf_raiseOne : MethodName := ⟨"StreamTransport$Outflow", "raiseOne", "(II)I"⟩
def t_Otf_raiseOne (pc : Nat) : Option Ent :=
  bif Nat.blt pc 16 then
    (bif Nat.blt pc 9 then
      (bif Nat.blt pc 4 then
        (bif Nat.blt pc 1 then
          (bif Nat.beq pc 0 then some (.iload_n 1, 1, 0, 0, 0) else none)
        else
          bif Nat.beq pc 1 then some (.ifCond .lt (8), 9, 0, 0, 0) else none)
      else
        bif Nat.blt pc 5 then
          (bif Nat.beq pc 4 then some (.iload_n 1, 1, 0, 0, 0) else none)
        else
          bif Nat.blt pc 6 then
            (bif Nat.beq pc 5 then some (.iconst 4, 0, 0, 0, 4) else none)
          else
            bif Nat.beq pc 6 then some (.if_icmp .lt (5), 11, 0, 0, 0) else none)
    else
      bif Nat.blt pc 11 then
        (bif Nat.blt pc 10 then
          (bif Nat.beq pc 9 then some (.iconst 2, 0, 0, 0, 2) else none)
        else
          bif Nat.beq pc 10 then some (.ireturn, 0, 0, 0, 0) else none)
      else
        bif Nat.blt pc 12 then
          (bif Nat.beq pc 11 then some (.aload_n 0, 0, 0, 0, 0) else none)
        else
          bif Nat.blt pc 15 then
            (bif Nat.beq pc 12 then some (.getfield 11, 4, 0, 1, 0) else none)
          else
            bif Nat.beq pc 15 then some (.iload_n 1, 1, 0, 0, 0) else none)
  else
    bif Nat.blt pc 23 then
      (bif Nat.blt pc 18 then
        (bif Nat.blt pc 17 then
          (bif Nat.beq pc 16 then some (.aaload, 0, 0, 0, 0) else none)
        else
          bif Nat.beq pc 17 then some (.aload_n 0, 0, 0, 0, 0) else none)
      else
        bif Nat.blt pc 21 then
          (bif Nat.beq pc 18 then some (.getfield 11, 4, 0, 1, 0) else none)
        else
          bif Nat.blt pc 22 then
            (bif Nat.beq pc 21 then some (.iload_n 1, 1, 0, 0, 0) else none)
          else
            bif Nat.beq pc 22 then some (.aaload, 0, 0, 0, 0) else none)
    else
      bif Nat.blt pc 30 then
        (bif Nat.blt pc 26 then
          (bif Nat.beq pc 23 then some (.getfield 30, 5, 4, 0, 0) else none)
        else
          bif Nat.blt pc 27 then
            (bif Nat.beq pc 26 then some (.iload_n 2, 2, 0, 0, 0) else none)
          else
            bif Nat.beq pc 27 then some (.invokestatic 24, 1, 2, 1, 0) else none)
      else
        bif Nat.blt pc 33 then
          (bif Nat.beq pc 30 then some (.putfield 30, 5, 4, 0, 0) else none)
        else
          bif Nat.blt pc 34 then
            (bif Nat.beq pc 33 then some (.iconst 0, 0, 0, 0, 0) else none)
          else
            bif Nat.beq pc 34 then some (.ireturn, 0, 0, 0, 0) else none
def i_Otf_raiseOne : Nat → Option Ent := ab_tab 35 t_Otf_raiseOne
def h_Otf_raiseOne (pc : Nat) : Nat × List Bool := (0, [])
def s_Otf_raiseOne (pc : Nat) : List (Int32 × Nat) × Nat := ([], 0)
noncomputable def eV_Otf_raiseOne : Nat → List AV → Mm → Option Mm := ab_ev []
noncomputable def eI_Otf_raiseOne : Nat → List AV → Mm → Option (Int32 × Mm) := ab_ev [(1, c_Math_max)]
noncomputable def b_Otf_raiseOne_0 (f : Nat) (v0 : Nat) (v1 : Int32) (v2 : Int32) (m : Mm) : Option Rs := ab_ex KT none s_Otf_raiseOne eV_Otf_raiseOne eI_Otf_raiseOne i_Otf_raiseOne h_Otf_raiseOne f 0 [some (.inr (.inr (17, some v0))), some (.inl v1), some (.inl v2)] [] m
set_option maxRecDepth 100000 in
set_option maxHeartbeats 4000000 in
theorem b_Otf_raiseOne_0_eq (f : Nat) (v0 : Nat) (v1 : Int32) (v2 : Int32) (m : Mm) : b_Otf_raiseOne_0 (f + 1) v0 v1 v2 m =
    if v1 < 0 then
      some (.inl (some (.inl (2 : Int32)), m))
    else
      if v1 < (4 : Int32) then
        (ab_ix v1 4).bind fun i1 =>
        (ab_ix v1 4).bind fun i2 =>
        (r_Math_max (m.1 61 ((v0 + 1) + 1 + 3 * i2) 0) v2 m).bind fun z3 =>
        ab_let (ab_uI z3.2 61 ((v0 + 1) + 1 + 3 * i1) 0 z3.1) fun m4 =>
        some (.inl (some (.inl (0 : Int32)), m4))
      else
        some (.inl (some (.inl (2 : Int32)), m)) := rfl
noncomputable def r_Otf_raiseOne : Nat → Int32 → Int32 → Mm → Option (Int32 × Mm) := ab_seal fun v0 v1 v2 m => ab_rI (b_Otf_raiseOne_0 50000 v0 v1 v2 m)
theorem r_Otf_raiseOne_eq (v0 : Nat) (v1 : Int32) (v2 : Int32) (m : Mm) : r_Otf_raiseOne v0 v1 v2 m = ab_rI (b_Otf_raiseOne_0 50000 v0 v1 v2 m) := by
  unfold r_Otf_raiseOne
  rw [ab_seal_eq]
noncomputable def c_Otf_raiseOne : List AV → Mm → Option (Int32 × Mm) := fun av m => match av with
  | [.inr (.inr (kv0, ov0)), .inl v1, .inl v2] => if kv0 = 17 then (ov0.bind fun v0 => r_Otf_raiseOne v0 v1 v2 m) else none
  | _ => none
theorem c_Otf_raiseOne_inv {av : List AV} {m : Mm} {r : Int32 × Mm} (h : c_Otf_raiseOne av m = some r) : ∃ (v0 : Nat) (v1 : Int32) (v2 : Int32), av = [.inr (.inr (17, some v0)), .inl v1, .inl v2] ∧ r_Otf_raiseOne v0 v1 v2 m = some r := by
  unfold c_Otf_raiseOne at h
  split at h
  · rename_i kv0 ov0 v1 v2
    by_cases hkv0 : kv0 = 17
    case neg => rw [if_neg hkv0] at h; cases h
    rw [if_pos hkv0] at h
    subst hkv0
    obtain ⟨v0, hev0, h⟩ := Option.bind_eq_some_iff.mp h
    subst hev0
    exact ⟨v0, v1, v2, rfl, h⟩
  · cases h
def cs_Otf_raiseOne : List Nat := [27]
set_option maxRecDepth 100000 in
theorem E_Otf_raiseOne : ∀ (pc : Nat) (q : Ent), i_Otf_raiseOne pc = some q → ab_E KT CL ab_gW "StreamTransport$Outflow" "raiseOne" (some .int) prog_6_method_3_code s_Otf_raiseOne 3 pc q.1 q.2.1 q.2.2.1 q.2.2.2.1 q.2.2.2.2 := fun pc q hq =>
  ab_Eb_ok lc_Otf lj_Otf fl_Otf (fpn_Otf "raiseOne") nw_Otf na_Otf nq_Otf (ab_tab_all (t := t_Otf_raiseOne) (chk := fun pc q => ab_Eb (some .int) prog_6_method_3_code s_Otf_raiseOne 3 LC_Otf LJ_Otf FL_Otf FPn_Otf NW_Otf NA_Otf NQ_Otf pc q.1 q.2.1 q.2.2.1 q.2.2.2.1 q.2.2.2.2) (by decide +kernel) hq)
set_option maxRecDepth 100000 in
theorem kp_Otf_raiseOne {av : List AV} {m : Mm} {r : Int32 × Mm} (h : c_Otf_raiseOne av m = some r) : ab_kp m r.2 := by
  obtain ⟨v0, v1, v2, -, h⟩ := c_Otf_raiseOne_inv h
  rw [r_Otf_raiseOne_eq] at h
  have hV : ∀ a av m m', eV_Otf_raiseOne a av m = some m' → ab_kp m m' := ab_ev_all (P := fun _ m r => ab_kp m r) [] (fun q hq => by cases hq)
  have hI : ∀ a av m q, eI_Otf_raiseOne a av m = some q → ab_kp m q.2 := ab_ev_all (P := fun _ (m : Mm) (r : Int32 × Mm) => ab_kp m r.2) [(1, c_Math_max)] (List.forall_mem_cons.mpr ⟨fun av m r h => kp_Math_max h, fun q hq => by cases hq⟩)
  exact ab_kprel (ρ := .inl (some (.inl r.1), r.2)) (ab_tab_isn (t := t_Otf_raiseOne) (by decide +kernel)) hV hI (ab_rI_inv h)
set_option maxRecDepth 100000 in
theorem cl_Otf_raiseOne (l : Launch) : ∀ (pc : Nat) (q : Ent), i_Otf_raiseOne pc = some q → ab_inv q.1 = true → ab_CR l KT CL none ab_gW "StreamTransport$Outflow" prog_6_method_3_code 3 1 21 eV_Otf_raiseOne eI_Otf_raiseOne pc q := by
  intro pc q hq hi
  have hm : pc ∈ cs_Otf_raiseOne := ab_tab_cs (t := t_Otf_raiseOne) (by decide +kernel) hq hi
  simp only [cs_Otf_raiseOne, List.mem_cons, List.not_mem_nil, or_false] at hm
  rcases hm with rfl
  · cases (Option.some.inj hq : ((.invokestatic 24, 1, 2, 1, 0) : Ent) = q)
    exact ab_crS (by decide +kernel) cw_Math_max (ab_gW_in 558 (by decide +kernel) rfl) st_Math_max (by decide) (fun av m m' h => by cases h) (fun av m r h => cm_Math_max l h) KT_nd
theorem cw_Otf_raiseOne : ab_cw y_Otf_raiseOne prog_6_method_3_code 3 2 (some .int) := ⟨ab_gW_in 746 (by decide +kernel) rfl, ab_gW_in 69 (by decide +kernel) rfl, by decide +kernel, by decide +kernel, by decide +kernel⟩
theorem is_Otf_raiseOne : Cond.instanceMethod y_Otf_raiseOne ∈ ab_gW := ab_gW_in 744 (by decide +kernel) rfl
theorem sl_Otf_raiseOne : Cond.selects "StreamTransport$Outflow" y_Otf_raiseOne y_Otf_raiseOne ∈ ab_gW := ab_gW_in 745 (by decide +kernel) rfl
set_option maxRecDepth 100000 in
theorem cm_Otf_raiseOne (l : Launch) {av : List AV} {m : Mm} {r : Int32 × Mm} (h0 : c_Otf_raiseOne av m = some r) : ∃ (k q : Nat) (av' : List AV) (ci : Nat) (fs : List (Nat × Nat × Nat × Nat)) (z : vw_C), av = .inr (.inr (k, some q)) :: av' ∧ av'.length = 2 ∧ k ≠ 0 ∧ KT[k]? = some (.inl (ci, fs)) ∧ CL[ci]? = some z ∧ z.1 = "StreamTransport$Outflow" ∧ ab_nos av' ∧ ab_Met l KT CL y_Otf_raiseOne (Cond.code y_Otf_raiseOne prog_6_method_3_code 3 (some .int) :: ab_gW) 1 21 none av m (some (.inl r.1)) r.2 := by
  obtain ⟨v0, v1, v2, hav, h⟩ := c_Otf_raiseOne_inv h0
  rw [r_Otf_raiseOne_eq] at h
  have hmo : ab_mo m r.2 := ab_kp_mo (kp_Otf_raiseOne h0)
  subst hav
  exact ⟨_, _, _, _, _, _, rfl, rfl, by decide, rfl, rfl, rfl, (by intro v hv q e; subst e; simp at hv), ab_met (by decide +kernel) KT_0 KT_nd KT_k3 E_Otf_raiseOne (cl_Otf_raiseOne l) hmo (Nat.le_of_ble_eq_true rfl) (ab_rI_inv h) (fun v hv => by cases hv; exact ⟨_, rfl⟩)⟩
/-! StreamTransport$Outflow.mark(LStreamTransport$Sent;I)V -/
def y_Otf_mark : MethodName := ⟨"StreamTransport$Outflow", "mark", "(LStreamTransport$Sent;I)V"⟩
def t_Otf_mark (pc : Nat) : Option Ent :=
  bif Nat.blt pc 12 then
    (bif Nat.blt pc 4 then
      (bif Nat.blt pc 2 then
        (bif Nat.blt pc 1 then
          (bif Nat.beq pc 0 then some (.iconst 0, 0, 0, 0, 0) else none)
        else
          bif Nat.beq pc 1 then some (.istore_n 3, 3, 0, 0, 0) else none)
      else
        bif Nat.blt pc 3 then
          (bif Nat.beq pc 2 then some (.iload_n 3, 3, 0, 0, 0) else none)
        else
          bif Nat.beq pc 3 then some (.iconst 4, 0, 0, 0, 4) else none)
    else
      bif Nat.blt pc 8 then
        (bif Nat.blt pc 7 then
          (bif Nat.beq pc 4 then some (.if_icmp .ge (21), 25, 0, 0, 0) else none)
        else
          bif Nat.beq pc 7 then some (.aload_n 0, 0, 0, 0, 0) else none)
      else
        bif Nat.blt pc 11 then
          (bif Nat.beq pc 8 then some (.getfield 11, 4, 0, 1, 0) else none)
        else
          bif Nat.beq pc 11 then some (.iload_n 3, 3, 0, 0, 0) else none)
  else
    bif Nat.blt pc 16 then
      (bif Nat.blt pc 14 then
        (bif Nat.blt pc 13 then
          (bif Nat.beq pc 12 then some (.aaload, 0, 0, 0, 0) else none)
        else
          bif Nat.beq pc 13 then some (.aload_n 1, 1, 0, 0, 0) else none)
      else
        bif Nat.blt pc 15 then
          (bif Nat.beq pc 14 then some (.iload_n 3, 3, 0, 0, 0) else none)
        else
          bif Nat.beq pc 15 then some (.iload_n 2, 2, 0, 0, 0) else none)
    else
      bif Nat.blt pc 22 then
        (bif Nat.blt pc 19 then
          (bif Nat.beq pc 16 then some (.invokevirtual 33, 39, 4, 0, 0) else none)
        else
          bif Nat.beq pc 19 then some (.iinc 3 1, 3, 0, 0, 1) else none)
      else
        bif Nat.blt pc 25 then
          (bif Nat.beq pc 22 then some (.goto (-20), 2, 0, 0, 0) else none)
        else
          bif Nat.beq pc 25 then some (.return_, 0, 0, 0, 0) else none
def i_Otf_mark : Nat → Option Ent := ab_tab 26 t_Otf_mark
def h_Otf_mark (pc : Nat) : Nat × List Bool := bif Nat.beq pc 2 then (1, [true, true, true, true]) else (0, [])
def s_Otf_mark (pc : Nat) : List (Int32 × Nat) × Nat := ([], 0)
noncomputable def eV_Otf_mark : Nat → List AV → Mm → Option Mm := ab_ev [(39, c_Out_mark)]
noncomputable def eI_Otf_mark : Nat → List AV → Mm → Option (Int32 × Mm) := ab_ev []
noncomputable def b_Otf_mark_0 (f : Nat) (v0 : Nat) (v1 : Nat) (v2 : Int32) (m : Mm) : Option Rs := ab_ex KT none s_Otf_mark eV_Otf_mark eI_Otf_mark i_Otf_mark h_Otf_mark f 0 [some (.inr (.inr (17, some v0))), some (.inr (.inr (22, some v1))), some (.inl v2), none] [] m
noncomputable def b_Otf_mark_2 (f : Nat) (v0 : Nat) (v1 : Nat) (v2 : Int32) (v3 : Int32) (m : Mm) : Option Rs := ab_ex KT none s_Otf_mark eV_Otf_mark eI_Otf_mark i_Otf_mark h_Otf_mark f 2 [some (.inr (.inr (17, some v0))), some (.inr (.inr (22, some v1))), some (.inl v2), some (.inl v3)] [] m
set_option maxRecDepth 100000 in
set_option maxHeartbeats 4000000 in
theorem b_Otf_mark_0_eq (f : Nat) (v0 : Nat) (v1 : Nat) (v2 : Int32) (m : Mm) : b_Otf_mark_0 (f + 1) v0 v1 v2 m =
    b_Otf_mark_2 f v0 v1 v2 (0 : Int32) m := rfl
set_option maxRecDepth 100000 in
set_option maxHeartbeats 4000000 in
theorem b_Otf_mark_2_eq (f : Nat) (v0 : Nat) (v1 : Nat) (v2 : Int32) (v3 : Int32) (m : Mm) : b_Otf_mark_2 (f + 1) v0 v1 v2 v3 m =
    if (4 : Int32) ≤ v3 then
      some (.inl (none, m))
    else
      (ab_ix v3 4).bind fun i1 =>
      (r_Out_mark ((v0 + 1) + 1 + 3 * i1) v1 v3 v2 m).bind fun m2 =>
      ab_let (v3 + (1 : Int32)) fun x3 =>
      b_Otf_mark_2 f v0 v1 v2 x3 m2 := rfl
noncomputable def r_Otf_mark : Nat → Nat → Int32 → Mm → Option Mm := ab_seal fun v0 v1 v2 m => ab_rV (b_Otf_mark_0 50000 v0 v1 v2 m)
theorem r_Otf_mark_eq (v0 : Nat) (v1 : Nat) (v2 : Int32) (m : Mm) : r_Otf_mark v0 v1 v2 m = ab_rV (b_Otf_mark_0 50000 v0 v1 v2 m) := by
  unfold r_Otf_mark
  rw [ab_seal_eq]
noncomputable def c_Otf_mark : List AV → Mm → Option Mm := fun av m => match av with
  | [.inr (.inr (kv0, ov0)), .inr (.inr (kv1, ov1)), .inl v2] => if kv0 = 17 then (if kv1 = 22 then (ov0.bind fun v0 => ov1.bind fun v1 => r_Otf_mark v0 v1 v2 m) else none) else none
  | _ => none
theorem c_Otf_mark_inv {av : List AV} {m : Mm} {r : Mm} (h : c_Otf_mark av m = some r) : ∃ (v0 : Nat) (v1 : Nat) (v2 : Int32), av = [.inr (.inr (17, some v0)), .inr (.inr (22, some v1)), .inl v2] ∧ r_Otf_mark v0 v1 v2 m = some r := by
  unfold c_Otf_mark at h
  split at h
  · rename_i kv0 ov0 kv1 ov1 v2
    by_cases hkv0 : kv0 = 17
    case neg => rw [if_neg hkv0] at h; cases h
    rw [if_pos hkv0] at h
    subst hkv0
    by_cases hkv1 : kv1 = 22
    case neg => rw [if_neg hkv1] at h; cases h
    rw [if_pos hkv1] at h
    subst hkv1
    obtain ⟨v0, hev0, h⟩ := Option.bind_eq_some_iff.mp h
    obtain ⟨v1, hev1, h⟩ := Option.bind_eq_some_iff.mp h
    subst hev0
    subst hev1
    exact ⟨v0, v1, v2, rfl, h⟩
  · cases h
def cs_Otf_mark : List Nat := [16]
set_option maxRecDepth 100000 in
theorem E_Otf_mark : ∀ (pc : Nat) (q : Ent), i_Otf_mark pc = some q → ab_E KT CL ab_gW "StreamTransport$Outflow" "mark" none prog_6_method_4_code s_Otf_mark 4 pc q.1 q.2.1 q.2.2.1 q.2.2.2.1 q.2.2.2.2 := fun pc q hq =>
  ab_Eb_ok lc_Otf lj_Otf fl_Otf (fpn_Otf "mark") nw_Otf na_Otf nq_Otf (ab_tab_all (t := t_Otf_mark) (chk := fun pc q => ab_Eb none prog_6_method_4_code s_Otf_mark 4 LC_Otf LJ_Otf FL_Otf FPn_Otf NW_Otf NA_Otf NQ_Otf pc q.1 q.2.1 q.2.2.1 q.2.2.2.1 q.2.2.2.2) (by decide +kernel) hq)
set_option maxRecDepth 100000 in
theorem kp_Otf_mark {av : List AV} {m : Mm} {r : Mm} (h : c_Otf_mark av m = some r) : ab_kp m r := by
  obtain ⟨v0, v1, v2, -, h⟩ := c_Otf_mark_inv h
  rw [r_Otf_mark_eq] at h
  have hV : ∀ a av m m', eV_Otf_mark a av m = some m' → ab_kp m m' := ab_ev_all (P := fun _ m r => ab_kp m r) [(39, c_Out_mark)] (List.forall_mem_cons.mpr ⟨fun av m r h => kp_Out_mark h, fun q hq => by cases hq⟩)
  have hI : ∀ a av m q, eI_Otf_mark a av m = some q → ab_kp m q.2 := ab_ev_all (P := fun _ (m : Mm) (r : Int32 × Mm) => ab_kp m r.2) [] (fun q hq => by cases hq)
  exact ab_kprel (ρ := .inl (none, r)) (ab_tab_isn (t := t_Otf_mark) (by decide +kernel)) hV hI (ab_rV_inv h)
set_option maxRecDepth 100000 in
theorem cl_Otf_mark (l : Launch) : ∀ (pc : Nat) (q : Ent), i_Otf_mark pc = some q → ab_inv q.1 = true → ab_CR l KT CL none ab_gW "StreamTransport$Outflow" prog_6_method_4_code 4 1 25 eV_Otf_mark eI_Otf_mark pc q := by
  intro pc q hq hi
  have hm : pc ∈ cs_Otf_mark := ab_tab_cs (t := t_Otf_mark) (by decide +kernel) hq hi
  simp only [cs_Otf_mark, List.mem_cons, List.not_mem_nil, or_false] at hm
  rcases hm with rfl
  · cases (Option.some.inj hq : ((.invokevirtual 33, 39, 4, 0, 0) : Ent) = q)
    exact ab_crV (C := "StreamTransport$Outgoing") (by decide +kernel) cw_Out_mark (ab_gW_in 594 (by decide +kernel) rfl) is_Out_mark sl_Out_mark (by decide) (fun av m m' h => cm_Out_mark l h) (fun av m r h => by cases h) KT_nd
theorem cw_Otf_mark : ab_cw y_Otf_mark prog_6_method_4_code 4 2 none := ⟨ab_gW_in 593 (by decide +kernel) rfl, ab_gW_in 69 (by decide +kernel) rfl, by decide +kernel, by decide +kernel, by decide +kernel⟩
theorem is_Otf_mark : Cond.instanceMethod y_Otf_mark ∈ ab_gW := ab_gW_in 591 (by decide +kernel) rfl
theorem sl_Otf_mark : Cond.selects "StreamTransport$Outflow" y_Otf_mark y_Otf_mark ∈ ab_gW := ab_gW_in 592 (by decide +kernel) rfl
set_option maxRecDepth 100000 in
theorem cm_Otf_mark (l : Launch) {av : List AV} {m : Mm} {r : Mm} (h0 : c_Otf_mark av m = some r) : ∃ (k q : Nat) (av' : List AV) (ci : Nat) (fs : List (Nat × Nat × Nat × Nat)) (z : vw_C), av = .inr (.inr (k, some q)) :: av' ∧ av'.length = 2 ∧ k ≠ 0 ∧ KT[k]? = some (.inl (ci, fs)) ∧ CL[ci]? = some z ∧ z.1 = "StreamTransport$Outflow" ∧ ab_nos av' ∧ ab_Met l KT CL y_Otf_mark (Cond.code y_Otf_mark prog_6_method_4_code 4 none :: ab_gW) 1 25 none av m none r := by
  obtain ⟨v0, v1, v2, hav, h⟩ := c_Otf_mark_inv h0
  rw [r_Otf_mark_eq] at h
  have hmo : ab_mo m r := ab_kp_mo (kp_Otf_mark h0)
  subst hav
  exact ⟨_, _, _, _, _, _, rfl, rfl, by decide, rfl, rfl, rfl, (by intro v hv q e; subst e; simp at hv), ab_met (by decide +kernel) KT_0 KT_nd KT_k3 E_Otf_mark (cl_Otf_mark l) hmo (Nat.le_of_ble_eq_true rfl) (ab_rV_inv h) (fun v hv => by cases hv)⟩
/-! StreamTransport$Outflow.putResets(LStreamTransport$Row;LStreamTransport$Sent;)V -/
def y_Otf_putResets : MethodName := ⟨"StreamTransport$Outflow", "putResets", "(LStreamTransport$Row;LStreamTransport$Sent;)V"⟩
def t_Otf_putResets (pc : Nat) : Option Ent :=
  bif Nat.blt pc 34 then
    (bif Nat.blt pc 13 then
      (bif Nat.blt pc 4 then
        (bif Nat.blt pc 2 then
          (bif Nat.blt pc 1 then
            (bif Nat.beq pc 0 then some (.iconst 0, 0, 0, 0, 0) else none)
          else
            bif Nat.beq pc 1 then some (.istore_n 3, 3, 0, 0, 0) else none)
        else
          bif Nat.blt pc 3 then
            (bif Nat.beq pc 2 then some (.iload_n 3, 3, 0, 0, 0) else none)
          else
            bif Nat.beq pc 3 then some (.iconst 4, 0, 0, 0, 4) else none)
      else
        bif Nat.blt pc 8 then
          (bif Nat.blt pc 7 then
            (bif Nat.beq pc 4 then some (.if_icmp .ge (68), 72, 0, 0, 0) else none)
          else
            bif Nat.beq pc 7 then some (.aload_n 0, 0, 0, 0, 0) else none)
        else
          bif Nat.blt pc 11 then
            (bif Nat.beq pc 8 then some (.getfield 11, 4, 0, 1, 0) else none)
          else
            bif Nat.blt pc 12 then
              (bif Nat.beq pc 11 then some (.iload_n 3, 3, 0, 0, 0) else none)
            else
              bif Nat.beq pc 12 then some (.aaload, 0, 0, 0, 0) else none)
    else
      bif Nat.blt pc 24 then
        (bif Nat.blt pc 17 then
          (bif Nat.blt pc 15 then
            (bif Nat.beq pc 13 then some (.astore 4, 4, 0, 0, 0) else none)
          else
            bif Nat.beq pc 15 then some (.aload 4, 4, 0, 0, 0) else none)
        else
          bif Nat.blt pc 20 then
            (bif Nat.beq pc 17 then some (.invokevirtual 37, 34, 1, 1, 0) else none)
          else
            bif Nat.blt pc 23 then
              (bif Nat.beq pc 20 then some (.ifCond .eq (46), 66, 0, 0, 0) else none)
            else
              bif Nat.beq pc 23 then some (.aload_n 1, 1, 0, 0, 0) else none)
      else
        bif Nat.blt pc 27 then
          (bif Nat.blt pc 25 then
            (bif Nat.beq pc 24 then some (.iconst 2, 0, 0, 0, 2) else none)
          else
            bif Nat.beq pc 25 then some (.aload 4, 4, 0, 0, 0) else none)
        else
          bif Nat.blt pc 30 then
            (bif Nat.beq pc 27 then some (.getfield 41, 5, 3, 0, 0) else none)
          else
            bif Nat.blt pc 33 then
              (bif Nat.beq pc 30 then some (.invokestatic 44, 4, 1, 1, 0) else none)
            else
              bif Nat.beq pc 33 then some (.iadd, 0, 0, 0, 0) else none)
  else
    bif Nat.blt pc 53 then
      (bif Nat.blt pc 45 then
        (bif Nat.blt pc 40 then
          (bif Nat.blt pc 37 then
            (bif Nat.beq pc 34 then some (.invokevirtual 48, 7, 2, 1, 0) else none)
          else
            bif Nat.beq pc 37 then some (.ifCond .eq (29), 66, 0, 0, 0) else none)
        else
          bif Nat.blt pc 41 then
            (bif Nat.beq pc 40 then some (.aload_n 1, 1, 0, 0, 0) else none)
          else
            bif Nat.blt pc 42 then
              (bif Nat.beq pc 41 then some (.iconst 5, 0, 0, 0, 5) else none)
            else
              bif Nat.beq pc 42 then some (.invokevirtual 54, 8, 2, 0, 0) else none)
      else
        bif Nat.blt pc 47 then
          (bif Nat.blt pc 46 then
            (bif Nat.beq pc 45 then some (.aload_n 1, 1, 0, 0, 0) else none)
          else
            bif Nat.beq pc 46 then some (.iload_n 3, 3, 0, 0, 0) else none)
        else
          bif Nat.blt pc 50 then
            (bif Nat.beq pc 47 then some (.invokevirtual 57, 10, 2, 0, 0) else none)
          else
            bif Nat.blt pc 51 then
              (bif Nat.beq pc 50 then some (.aload_n 1, 1, 0, 0, 0) else none)
            else
              bif Nat.beq pc 51 then some (.aload 4, 4, 0, 0, 0) else none)
    else
      bif Nat.blt pc 64 then
        (bif Nat.blt pc 59 then
          (bif Nat.blt pc 56 then
            (bif Nat.beq pc 53 then some (.getfield 41, 5, 3, 0, 0) else none)
          else
            bif Nat.beq pc 56 then some (.invokevirtual 57, 10, 2, 0, 0) else none)
        else
          bif Nat.blt pc 60 then
            (bif Nat.beq pc 59 then some (.aload_n 2, 2, 0, 0, 0) else none)
          else
            bif Nat.blt pc 63 then
              (bif Nat.beq pc 60 then some (.getfield 60, 8, 7, 1, 0) else none)
            else
              bif Nat.beq pc 63 then some (.iload_n 3, 3, 0, 0, 0) else none)
      else
        bif Nat.blt pc 66 then
          (bif Nat.blt pc 65 then
            (bif Nat.beq pc 64 then some (.iconst 1, 0, 0, 0, 1) else none)
          else
            bif Nat.beq pc 65 then some (.bastore, 0, 0, 0, 0) else none)
        else
          bif Nat.blt pc 69 then
            (bif Nat.beq pc 66 then some (.iinc 3 1, 3, 0, 0, 1) else none)
          else
            bif Nat.blt pc 72 then
              (bif Nat.beq pc 69 then some (.goto (-67), 2, 0, 0, 0) else none)
            else
              bif Nat.beq pc 72 then some (.return_, 0, 0, 0, 0) else none
def i_Otf_putResets : Nat → Option Ent := ab_tab 73 t_Otf_putResets
def h_Otf_putResets (pc : Nat) : Nat × List Bool := bif Nat.beq pc 2 then (1, [true, true, true, true, false]) else bif Nat.beq pc 66 then (1, [true, true, true, true, false]) else (0, [])
def s_Otf_putResets (pc : Nat) : List (Int32 × Nat) × Nat := ([], 0)
noncomputable def eV_Otf_putResets : Nat → List AV → Mm → Option Mm := ab_ev [(8, c_Row_put), (10, c_Row_putNumber)]
noncomputable def eI_Otf_putResets : Nat → List AV → Mm → Option (Int32 × Mm) := ab_ev [(34, c_Out_owesReset), (4, c_X_sizeOf), (7, c_Row_hasRoomFor)]
noncomputable def b_Otf_putResets_0 (f : Nat) (v0 : Nat) (v1 : Nat) (v2 : Nat) (m : Mm) : Option Rs := ab_ex KT none s_Otf_putResets eV_Otf_putResets eI_Otf_putResets i_Otf_putResets h_Otf_putResets f 0 [some (.inr (.inr (17, some v0))), some (.inr (.inr (4, some v1))), some (.inr (.inr (22, some v2))), none, none] [] m
noncomputable def b_Otf_putResets_2 (f : Nat) (v0 : Nat) (v1 : Nat) (v2 : Nat) (v3 : Int32) (m : Mm) : Option Rs := ab_ex KT none s_Otf_putResets eV_Otf_putResets eI_Otf_putResets i_Otf_putResets h_Otf_putResets f 2 [some (.inr (.inr (17, some v0))), some (.inr (.inr (4, some v1))), some (.inr (.inr (22, some v2))), some (.inl v3), none] [] m
noncomputable def b_Otf_putResets_66 (f : Nat) (v0 : Nat) (v1 : Nat) (v2 : Nat) (v3 : Int32) (m : Mm) : Option Rs := ab_ex KT none s_Otf_putResets eV_Otf_putResets eI_Otf_putResets i_Otf_putResets h_Otf_putResets f 66 [some (.inr (.inr (17, some v0))), some (.inr (.inr (4, some v1))), some (.inr (.inr (22, some v2))), some (.inl v3), none] [] m
set_option maxRecDepth 100000 in
set_option maxHeartbeats 4000000 in
theorem b_Otf_putResets_0_eq (f : Nat) (v0 : Nat) (v1 : Nat) (v2 : Nat) (m : Mm) : b_Otf_putResets_0 (f + 1) v0 v1 v2 m =
    b_Otf_putResets_2 f v0 v1 v2 (0 : Int32) m := rfl
set_option maxRecDepth 100000 in
set_option maxHeartbeats 4000000 in
theorem b_Otf_putResets_2_eq (f : Nat) (v0 : Nat) (v1 : Nat) (v2 : Nat) (v3 : Int32) (m : Mm) : b_Otf_putResets_2 (f + 1) v0 v1 v2 v3 m =
    if (4 : Int32) ≤ v3 then
      some (.inl (none, m))
    else
      (ab_ix v3 4).bind fun i1 =>
      (r_Out_owesReset ((v0 + 1) + 1 + 3 * i1) m).bind fun z2 =>
      if z2.1 = 0 then
        b_Otf_putResets_66 f v0 v1 v2 v3 z2.2
      else
        (r_X_sizeOf (z2.2.1 60 ((v0 + 1) + 1 + 3 * i1) 0) z2.2).bind fun z3 =>
        (r_Row_hasRoomFor v1 ((2 : Int32) + z3.1) z3.2).bind fun z4 =>
        if z4.1 = 0 then
          b_Otf_putResets_66 f v0 v1 v2 v3 z4.2
        else
          (r_Row_put v1 (5 : Int32) z4.2).bind fun m5 =>
          (r_Row_putNumber v1 v3 m5).bind fun m6 =>
          (r_Row_putNumber v1 (m6.1 60 ((v0 + 1) + 1 + 3 * i1) 0) m6).bind fun m7 =>
          (ab_ix v3 4).bind fun i8 =>
          (ab_bo (1 : Int32)).bind fun y10 =>
          ab_let (ab_uI m7 80 (v2 + 5) i8 y10) fun m9 =>
          b_Otf_putResets_66 f v0 v1 v2 v3 m9 := rfl
set_option maxRecDepth 100000 in
set_option maxHeartbeats 4000000 in
theorem b_Otf_putResets_66_eq (f : Nat) (v0 : Nat) (v1 : Nat) (v2 : Nat) (v3 : Int32) (m : Mm) : b_Otf_putResets_66 (f + 1) v0 v1 v2 v3 m =
    ab_let (v3 + (1 : Int32)) fun x1 =>
    b_Otf_putResets_2 f v0 v1 v2 x1 m := rfl
noncomputable def r_Otf_putResets : Nat → Nat → Nat → Mm → Option Mm := ab_seal fun v0 v1 v2 m => ab_rV (b_Otf_putResets_0 50000 v0 v1 v2 m)
theorem r_Otf_putResets_eq (v0 : Nat) (v1 : Nat) (v2 : Nat) (m : Mm) : r_Otf_putResets v0 v1 v2 m = ab_rV (b_Otf_putResets_0 50000 v0 v1 v2 m) := by
  unfold r_Otf_putResets
  rw [ab_seal_eq]
noncomputable def c_Otf_putResets : List AV → Mm → Option Mm := fun av m => match av with
  | [.inr (.inr (kv0, ov0)), .inr (.inr (kv1, ov1)), .inr (.inr (kv2, ov2))] => if kv0 = 17 then (if kv1 = 4 then (if kv2 = 22 then (ov0.bind fun v0 => ov1.bind fun v1 => ov2.bind fun v2 => r_Otf_putResets v0 v1 v2 m) else none) else none) else none
  | _ => none
theorem c_Otf_putResets_inv {av : List AV} {m : Mm} {r : Mm} (h : c_Otf_putResets av m = some r) : ∃ (v0 : Nat) (v1 : Nat) (v2 : Nat), av = [.inr (.inr (17, some v0)), .inr (.inr (4, some v1)), .inr (.inr (22, some v2))] ∧ r_Otf_putResets v0 v1 v2 m = some r := by
  unfold c_Otf_putResets at h
  split at h
  · rename_i kv0 ov0 kv1 ov1 kv2 ov2
    by_cases hkv0 : kv0 = 17
    case neg => rw [if_neg hkv0] at h; cases h
    rw [if_pos hkv0] at h
    subst hkv0
    by_cases hkv1 : kv1 = 4
    case neg => rw [if_neg hkv1] at h; cases h
    rw [if_pos hkv1] at h
    subst hkv1
    by_cases hkv2 : kv2 = 22
    case neg => rw [if_neg hkv2] at h; cases h
    rw [if_pos hkv2] at h
    subst hkv2
    obtain ⟨v0, hev0, h⟩ := Option.bind_eq_some_iff.mp h
    obtain ⟨v1, hev1, h⟩ := Option.bind_eq_some_iff.mp h
    obtain ⟨v2, hev2, h⟩ := Option.bind_eq_some_iff.mp h
    subst hev0
    subst hev1
    subst hev2
    exact ⟨v0, v1, v2, rfl, h⟩
  · cases h
def cs_Otf_putResets : List Nat := [17, 30, 34, 42, 47, 56]
set_option maxRecDepth 100000 in
theorem E_Otf_putResets : ∀ (pc : Nat) (q : Ent), i_Otf_putResets pc = some q → ab_E KT CL ab_gW "StreamTransport$Outflow" "putResets" none prog_6_method_5_code s_Otf_putResets 5 pc q.1 q.2.1 q.2.2.1 q.2.2.2.1 q.2.2.2.2 := fun pc q hq =>
  ab_Eb_ok lc_Otf lj_Otf fl_Otf (fpn_Otf "putResets") nw_Otf na_Otf nq_Otf (ab_tab_all (t := t_Otf_putResets) (chk := fun pc q => ab_Eb none prog_6_method_5_code s_Otf_putResets 5 LC_Otf LJ_Otf FL_Otf FPn_Otf NW_Otf NA_Otf NQ_Otf pc q.1 q.2.1 q.2.2.1 q.2.2.2.1 q.2.2.2.2) (by decide +kernel) hq)
set_option maxRecDepth 100000 in
theorem kp_Otf_putResets {av : List AV} {m : Mm} {r : Mm} (h : c_Otf_putResets av m = some r) : ab_kp m r := by
  obtain ⟨v0, v1, v2, -, h⟩ := c_Otf_putResets_inv h
  rw [r_Otf_putResets_eq] at h
  have hV : ∀ a av m m', eV_Otf_putResets a av m = some m' → ab_kp m m' := ab_ev_all (P := fun _ m r => ab_kp m r) [(8, c_Row_put), (10, c_Row_putNumber)] (List.forall_mem_cons.mpr ⟨fun av m r h => kp_Row_put h, List.forall_mem_cons.mpr ⟨fun av m r h => kp_Row_putNumber h, fun q hq => by cases hq⟩⟩)
  have hI : ∀ a av m q, eI_Otf_putResets a av m = some q → ab_kp m q.2 := ab_ev_all (P := fun _ (m : Mm) (r : Int32 × Mm) => ab_kp m r.2) [(34, c_Out_owesReset), (4, c_X_sizeOf), (7, c_Row_hasRoomFor)] (List.forall_mem_cons.mpr ⟨fun av m r h => kp_Out_owesReset h, List.forall_mem_cons.mpr ⟨fun av m r h => kp_X_sizeOf h, List.forall_mem_cons.mpr ⟨fun av m r h => kp_Row_hasRoomFor h, fun q hq => by cases hq⟩⟩⟩)
  exact ab_kprel (ρ := .inl (none, r)) (ab_tab_isn (t := t_Otf_putResets) (by decide +kernel)) hV hI (ab_rV_inv h)
set_option maxRecDepth 100000 in
theorem cl_Otf_putResets (l : Launch) : ∀ (pc : Nat) (q : Ent), i_Otf_putResets pc = some q → ab_inv q.1 = true → ab_CR l KT CL none ab_gW "StreamTransport$Outflow" prog_6_method_5_code 5 2 45 eV_Otf_putResets eI_Otf_putResets pc q := by
  intro pc q hq hi
  have hm : pc ∈ cs_Otf_putResets := ab_tab_cs (t := t_Otf_putResets) (by decide +kernel) hq hi
  simp only [cs_Otf_putResets, List.mem_cons, List.not_mem_nil, or_false] at hm
  rcases hm with rfl | rfl | rfl | rfl | rfl | rfl
  · cases (Option.some.inj hq : ((.invokevirtual 37, 34, 1, 1, 0) : Ent) = q)
    exact ab_crV (C := "StreamTransport$Outgoing") (by decide +kernel) cw_Out_owesReset (ab_gW_in 529 (by decide +kernel) rfl) is_Out_owesReset sl_Out_owesReset (by decide) (fun av m m' h => by cases h) (fun av m r h => cm_Out_owesReset l h) KT_nd
  · cases (Option.some.inj hq : ((.invokestatic 44, 4, 1, 1, 0) : Ent) = q)
    exact ab_crSN (by decide +kernel) cw_X_sizeOf (by decide +kernel) st_X_sizeOf (by decide) (fun av m m' h => by cases h) (fun av m r h => cm_X_sizeOf l h) KT_nd
  · cases (Option.some.inj hq : ((.invokevirtual 48, 7, 2, 1, 0) : Ent) = q)
    exact ab_crV (C := "StreamTransport$Row") (by decide +kernel) cw_Row_hasRoomFor (ab_gW_in 537 (by decide +kernel) rfl) is_Row_hasRoomFor sl_Row_hasRoomFor (by decide) (fun av m m' h => by cases h) (fun av m r h => cm_Row_hasRoomFor l h) KT_nd
  · cases (Option.some.inj hq : ((.invokevirtual 54, 8, 2, 0, 0) : Ent) = q)
    exact ab_crV (C := "StreamTransport$Row") (by decide +kernel) cw_Row_put (ab_gW_in 538 (by decide +kernel) rfl) is_Row_put sl_Row_put (by decide) (fun av m m' h => cm_Row_put l h) (fun av m r h => by cases h) KT_nd
  · cases (Option.some.inj hq : ((.invokevirtual 57, 10, 2, 0, 0) : Ent) = q)
    exact ab_crV (C := "StreamTransport$Row") (by decide +kernel) cw_Row_putNumber (ab_gW_in 539 (by decide +kernel) rfl) is_Row_putNumber sl_Row_putNumber (by decide) (fun av m m' h => cm_Row_putNumber l h) (fun av m r h => by cases h) KT_nd
  · cases (Option.some.inj hq : ((.invokevirtual 57, 10, 2, 0, 0) : Ent) = q)
    exact ab_crV (C := "StreamTransport$Row") (by decide +kernel) cw_Row_putNumber (ab_gW_in 539 (by decide +kernel) rfl) is_Row_putNumber sl_Row_putNumber (by decide) (fun av m m' h => cm_Row_putNumber l h) (fun av m r h => by cases h) KT_nd
theorem cw_Otf_putResets : ab_cw y_Otf_putResets prog_6_method_5_code 5 2 none := ⟨ab_gW_in 528 (by decide +kernel) rfl, ab_gW_in 69 (by decide +kernel) rfl, by decide +kernel, by decide +kernel, by decide +kernel⟩
theorem is_Otf_putResets : Cond.instanceMethod y_Otf_putResets ∈ ab_gW := ab_gW_in 526 (by decide +kernel) rfl
theorem sl_Otf_putResets : Cond.selects "StreamTransport$Outflow" y_Otf_putResets y_Otf_putResets ∈ ab_gW := ab_gW_in 527 (by decide +kernel) rfl
set_option maxRecDepth 100000 in
theorem cm_Otf_putResets (l : Launch) {av : List AV} {m : Mm} {r : Mm} (h0 : c_Otf_putResets av m = some r) : ∃ (k q : Nat) (av' : List AV) (ci : Nat) (fs : List (Nat × Nat × Nat × Nat)) (z : vw_C), av = .inr (.inr (k, some q)) :: av' ∧ av'.length = 2 ∧ k ≠ 0 ∧ KT[k]? = some (.inl (ci, fs)) ∧ CL[ci]? = some z ∧ z.1 = "StreamTransport$Outflow" ∧ ab_nos av' ∧ ab_Met l KT CL y_Otf_putResets (Cond.code y_Otf_putResets prog_6_method_5_code 5 none :: ab_gW) 2 45 none av m none r := by
  obtain ⟨v0, v1, v2, hav, h⟩ := c_Otf_putResets_inv h0
  rw [r_Otf_putResets_eq] at h
  have hmo : ab_mo m r := ab_kp_mo (kp_Otf_putResets h0)
  subst hav
  exact ⟨_, _, _, _, _, _, rfl, rfl, by decide, rfl, rfl, rfl, (by intro v hv q e; subst e; simp at hv), ab_met (by decide +kernel) KT_0 KT_nd KT_k3 E_Otf_putResets (cl_Otf_putResets l) hmo (Nat.le_of_ble_eq_true rfl) (ab_rV_inv h) (fun v hv => by cases hv)⟩
/-! StreamTransport$Outflow.countAllowed(LStreamTransport$Outgoing;)I -/
def y_Otf_countAllowed : MethodName := ⟨"StreamTransport$Outflow", "countAllowed", "(LStreamTransport$Outgoing;)I"⟩
def t_Otf_countAllowed (pc : Nat) : Option Ent :=
  bif Nat.blt pc 29 then
    (bif Nat.blt pc 16 then
      (bif Nat.blt pc 8 then
        (bif Nat.blt pc 4 then
          (bif Nat.blt pc 1 then
            (bif Nat.beq pc 0 then some (.aload_n 1, 1, 0, 0, 0) else none)
          else
            bif Nat.beq pc 1 then some (.getfield 111, 5, 2, 0, 0) else none)
        else
          bif Nat.blt pc 5 then
            (bif Nat.beq pc 4 then some (.aload_n 1, 1, 0, 0, 0) else none)
          else
            bif Nat.beq pc 5 then some (.getfield 30, 5, 4, 0, 0) else none)
      else
        bif Nat.blt pc 12 then
          (bif Nat.blt pc 11 then
            (bif Nat.beq pc 8 then some (.invokestatic 92, 2, 2, 1, 0) else none)
          else
            bif Nat.beq pc 11 then some (.aload_n 1, 1, 0, 0, 0) else none)
        else
          bif Nat.blt pc 15 then
            (bif Nat.beq pc 12 then some (.getfield 41, 5, 3, 0, 0) else none)
          else
            bif Nat.beq pc 15 then some (.isub, 0, 0, 0, 0) else none)
    else
      bif Nat.blt pc 20 then
        (bif Nat.blt pc 18 then
          (bif Nat.blt pc 17 then
            (bif Nat.beq pc 16 then some (.istore_n 2, 2, 0, 0, 0) else none)
          else
            bif Nat.beq pc 17 then some (.iconst 0, 0, 0, 0, 0) else none)
        else
          bif Nat.blt pc 19 then
            (bif Nat.beq pc 18 then some (.istore_n 3, 3, 0, 0, 0) else none)
          else
            bif Nat.beq pc 19 then some (.iconst 0, 0, 0, 0, 0) else none)
      else
        bif Nat.blt pc 24 then
          (bif Nat.blt pc 22 then
            (bif Nat.beq pc 20 then some (.istore 4, 4, 0, 0, 0) else none)
          else
            bif Nat.beq pc 22 then some (.iload 4, 4, 0, 0, 0) else none)
        else
          bif Nat.blt pc 25 then
            (bif Nat.beq pc 24 then some (.iconst 4, 0, 0, 0, 4) else none)
          else
            bif Nat.blt pc 28 then
              (bif Nat.beq pc 25 then some (.if_icmp .ge (22), 47, 0, 0, 0) else none)
            else
              bif Nat.beq pc 28 then some (.iload_n 3, 3, 0, 0, 0) else none)
  else
    bif Nat.blt pc 47 then
      (bif Nat.blt pc 36 then
        (bif Nat.blt pc 33 then
          (bif Nat.blt pc 30 then
            (bif Nat.beq pc 29 then some (.aload_n 0, 0, 0, 0, 0) else none)
          else
            bif Nat.beq pc 30 then some (.getfield 11, 4, 0, 1, 0) else none)
        else
          bif Nat.blt pc 35 then
            (bif Nat.beq pc 33 then some (.iload 4, 4, 0, 0, 0) else none)
          else
            bif Nat.beq pc 35 then some (.aaload, 0, 0, 0, 0) else none)
      else
        bif Nat.blt pc 40 then
          (bif Nat.blt pc 39 then
            (bif Nat.beq pc 36 then some (.getfield 41, 5, 3, 0, 0) else none)
          else
            bif Nat.beq pc 39 then some (.iadd, 0, 0, 0, 0) else none)
        else
          bif Nat.blt pc 41 then
            (bif Nat.beq pc 40 then some (.istore_n 3, 3, 0, 0, 0) else none)
          else
            bif Nat.blt pc 44 then
              (bif Nat.beq pc 41 then some (.iinc 4 1, 4, 0, 0, 1) else none)
            else
              bif Nat.beq pc 44 then some (.goto (-22), 22, 0, 0, 0) else none)
    else
      bif Nat.blt pc 53 then
        (bif Nat.blt pc 49 then
          (bif Nat.blt pc 48 then
            (bif Nat.beq pc 47 then some (.iconst 0, 0, 0, 0, 0) else none)
          else
            bif Nat.beq pc 48 then some (.iload_n 2, 2, 0, 0, 0) else none)
        else
          bif Nat.blt pc 50 then
            (bif Nat.beq pc 49 then some (.aload_n 0, 0, 0, 0, 0) else none)
          else
            bif Nat.beq pc 50 then some (.getfield 17, 4, 1, 0, 0) else none)
      else
        bif Nat.blt pc 55 then
          (bif Nat.blt pc 54 then
            (bif Nat.beq pc 53 then some (.iload_n 3, 3, 0, 0, 0) else none)
          else
            bif Nat.beq pc 54 then some (.isub, 0, 0, 0, 0) else none)
        else
          bif Nat.blt pc 58 then
            (bif Nat.beq pc 55 then some (.invokestatic 92, 2, 2, 1, 0) else none)
          else
            bif Nat.blt pc 61 then
              (bif Nat.beq pc 58 then some (.invokestatic 24, 1, 2, 1, 0) else none)
            else
              bif Nat.beq pc 61 then some (.ireturn, 0, 0, 0, 0) else none
def i_Otf_countAllowed : Nat → Option Ent := ab_tab 62 t_Otf_countAllowed
def h_Otf_countAllowed (pc : Nat) : Nat × List Bool := bif Nat.beq pc 22 then (1, [true, false, true, true, true]) else (0, [])
def s_Otf_countAllowed (pc : Nat) : List (Int32 × Nat) × Nat := ([], 0)
noncomputable def eV_Otf_countAllowed : Nat → List AV → Mm → Option Mm := ab_ev []
noncomputable def eI_Otf_countAllowed : Nat → List AV → Mm → Option (Int32 × Mm) := ab_ev [(2, c_Math_min), (1, c_Math_max)]
noncomputable def b_Otf_countAllowed_0 (f : Nat) (v0 : Nat) (v1 : Nat) (m : Mm) : Option Rs := ab_ex KT none s_Otf_countAllowed eV_Otf_countAllowed eI_Otf_countAllowed i_Otf_countAllowed h_Otf_countAllowed f 0 [some (.inr (.inr (17, some v0))), some (.inr (.inr (19, some v1))), none, none, none] [] m
noncomputable def b_Otf_countAllowed_22 (f : Nat) (v0 : Nat) (v2 : Int32) (v3 : Int32) (v4 : Int32) (m : Mm) : Option Rs := ab_ex KT none s_Otf_countAllowed eV_Otf_countAllowed eI_Otf_countAllowed i_Otf_countAllowed h_Otf_countAllowed f 22 [some (.inr (.inr (17, some v0))), none, some (.inl v2), some (.inl v3), some (.inl v4)] [] m
set_option maxRecDepth 100000 in
set_option maxHeartbeats 4000000 in
theorem b_Otf_countAllowed_0_eq (f : Nat) (v0 : Nat) (v1 : Nat) (m : Mm) : b_Otf_countAllowed_0 (f + 1) v0 v1 m =
    (r_Math_min (m.1 59 v1 0) (m.1 61 v1 0) m).bind fun z1 =>
    ab_let ((z1.1 - (z1.2.1 60 v1 0))) fun x2 =>
    b_Otf_countAllowed_22 f v0 x2 (0 : Int32) (0 : Int32) z1.2 := rfl
set_option maxRecDepth 100000 in
set_option maxHeartbeats 4000000 in
theorem b_Otf_countAllowed_22_eq (f : Nat) (v0 : Nat) (v2 : Int32) (v3 : Int32) (v4 : Int32) (m : Mm) : b_Otf_countAllowed_22 (f + 1) v0 v2 v3 v4 m =
    if (4 : Int32) ≤ v4 then
      (r_Math_min v2 ((m.1 55 v0 0) - v3) m).bind fun z1 =>
      (r_Math_max (0 : Int32) z1.1 z1.2).bind fun z2 =>
      some (.inl (some (.inl z2.1), z2.2))
    else
      (ab_ix v4 4).bind fun i3 =>
      ab_let ((v3 + (m.1 60 ((v0 + 1) + 1 + 3 * i3) 0))) fun x4 =>
      ab_let (v4 + (1 : Int32)) fun x5 =>
      b_Otf_countAllowed_22 f v0 v2 x4 x5 m := rfl
noncomputable def r_Otf_countAllowed : Nat → Nat → Mm → Option (Int32 × Mm) := ab_seal fun v0 v1 m => ab_rI (b_Otf_countAllowed_0 50000 v0 v1 m)
theorem r_Otf_countAllowed_eq (v0 : Nat) (v1 : Nat) (m : Mm) : r_Otf_countAllowed v0 v1 m = ab_rI (b_Otf_countAllowed_0 50000 v0 v1 m) := by
  unfold r_Otf_countAllowed
  rw [ab_seal_eq]
noncomputable def c_Otf_countAllowed : List AV → Mm → Option (Int32 × Mm) := fun av m => match av with
  | [.inr (.inr (kv0, ov0)), .inr (.inr (kv1, ov1))] => if kv0 = 17 then (if kv1 = 19 then (ov0.bind fun v0 => ov1.bind fun v1 => r_Otf_countAllowed v0 v1 m) else none) else none
  | _ => none
theorem c_Otf_countAllowed_inv {av : List AV} {m : Mm} {r : Int32 × Mm} (h : c_Otf_countAllowed av m = some r) : ∃ (v0 : Nat) (v1 : Nat), av = [.inr (.inr (17, some v0)), .inr (.inr (19, some v1))] ∧ r_Otf_countAllowed v0 v1 m = some r := by
  unfold c_Otf_countAllowed at h
  split at h
  · rename_i kv0 ov0 kv1 ov1
    by_cases hkv0 : kv0 = 17
    case neg => rw [if_neg hkv0] at h; cases h
    rw [if_pos hkv0] at h
    subst hkv0
    by_cases hkv1 : kv1 = 19
    case neg => rw [if_neg hkv1] at h; cases h
    rw [if_pos hkv1] at h
    subst hkv1
    obtain ⟨v0, hev0, h⟩ := Option.bind_eq_some_iff.mp h
    obtain ⟨v1, hev1, h⟩ := Option.bind_eq_some_iff.mp h
    subst hev0
    subst hev1
    exact ⟨v0, v1, rfl, h⟩
  · cases h
def cs_Otf_countAllowed : List Nat := [8, 55, 58]
set_option maxRecDepth 100000 in
theorem E_Otf_countAllowed : ∀ (pc : Nat) (q : Ent), i_Otf_countAllowed pc = some q → ab_E KT CL ab_gW "StreamTransport$Outflow" "countAllowed" (some .int) prog_6_method_9_code s_Otf_countAllowed 5 pc q.1 q.2.1 q.2.2.1 q.2.2.2.1 q.2.2.2.2 := fun pc q hq =>
  ab_Eb_ok lc_Otf lj_Otf fl_Otf (fpn_Otf "countAllowed") nw_Otf na_Otf nq_Otf (ab_tab_all (t := t_Otf_countAllowed) (chk := fun pc q => ab_Eb (some .int) prog_6_method_9_code s_Otf_countAllowed 5 LC_Otf LJ_Otf FL_Otf FPn_Otf NW_Otf NA_Otf NQ_Otf pc q.1 q.2.1 q.2.2.1 q.2.2.2.1 q.2.2.2.2) (by decide +kernel) hq)
set_option maxRecDepth 100000 in
theorem kp_Otf_countAllowed {av : List AV} {m : Mm} {r : Int32 × Mm} (h : c_Otf_countAllowed av m = some r) : ab_kp m r.2 := by
  obtain ⟨v0, v1, -, h⟩ := c_Otf_countAllowed_inv h
  rw [r_Otf_countAllowed_eq] at h
  have hV : ∀ a av m m', eV_Otf_countAllowed a av m = some m' → ab_kp m m' := ab_ev_all (P := fun _ m r => ab_kp m r) [] (fun q hq => by cases hq)
  have hI : ∀ a av m q, eI_Otf_countAllowed a av m = some q → ab_kp m q.2 := ab_ev_all (P := fun _ (m : Mm) (r : Int32 × Mm) => ab_kp m r.2) [(2, c_Math_min), (1, c_Math_max)] (List.forall_mem_cons.mpr ⟨fun av m r h => kp_Math_min h, List.forall_mem_cons.mpr ⟨fun av m r h => kp_Math_max h, fun q hq => by cases hq⟩⟩)
  exact ab_kprel (ρ := .inl (some (.inl r.1), r.2)) (ab_tab_isn (t := t_Otf_countAllowed) (by decide +kernel)) hV hI (ab_rI_inv h)
set_option maxRecDepth 100000 in
theorem cl_Otf_countAllowed (l : Launch) : ∀ (pc : Nat) (q : Ent), i_Otf_countAllowed pc = some q → ab_inv q.1 = true → ab_CR l KT CL none ab_gW "StreamTransport$Outflow" prog_6_method_9_code 5 1 21 eV_Otf_countAllowed eI_Otf_countAllowed pc q := by
  intro pc q hq hi
  have hm : pc ∈ cs_Otf_countAllowed := ab_tab_cs (t := t_Otf_countAllowed) (by decide +kernel) hq hi
  simp only [cs_Otf_countAllowed, List.mem_cons, List.not_mem_nil, or_false] at hm
  rcases hm with rfl | rfl | rfl
  · cases (Option.some.inj hq : ((.invokestatic 92, 2, 2, 1, 0) : Ent) = q)
    exact ab_crS (by decide +kernel) cw_Math_min (ab_gW_in 557 (by decide +kernel) rfl) st_Math_min (by decide) (fun av m m' h => by cases h) (fun av m r h => cm_Math_min l h) KT_nd
  · cases (Option.some.inj hq : ((.invokestatic 92, 2, 2, 1, 0) : Ent) = q)
    exact ab_crS (by decide +kernel) cw_Math_min (ab_gW_in 557 (by decide +kernel) rfl) st_Math_min (by decide) (fun av m m' h => by cases h) (fun av m r h => cm_Math_min l h) KT_nd
  · cases (Option.some.inj hq : ((.invokestatic 24, 1, 2, 1, 0) : Ent) = q)
    exact ab_crS (by decide +kernel) cw_Math_max (ab_gW_in 558 (by decide +kernel) rfl) st_Math_max (by decide) (fun av m m' h => by cases h) (fun av m r h => cm_Math_max l h) KT_nd
theorem cw_Otf_countAllowed : ab_cw y_Otf_countAllowed prog_6_method_9_code 5 1 (some .int) := ⟨ab_gW_in 556 (by decide +kernel) rfl, ab_gW_in 69 (by decide +kernel) rfl, by decide +kernel, by decide +kernel, by decide +kernel⟩
theorem is_Otf_countAllowed : Cond.instanceMethod y_Otf_countAllowed ∈ ab_gW := ab_gW_in 555 (by decide +kernel) rfl
theorem sl_Otf_countAllowed : Cond.selects "StreamTransport$Outflow" y_Otf_countAllowed y_Otf_countAllowed ∈ ab_gW := ab_gW_in 7 (by decide +kernel) rfl
set_option maxRecDepth 100000 in
theorem cm_Otf_countAllowed (l : Launch) {av : List AV} {m : Mm} {r : Int32 × Mm} (h0 : c_Otf_countAllowed av m = some r) : ∃ (k q : Nat) (av' : List AV) (ci : Nat) (fs : List (Nat × Nat × Nat × Nat)) (z : vw_C), av = .inr (.inr (k, some q)) :: av' ∧ av'.length = 1 ∧ k ≠ 0 ∧ KT[k]? = some (.inl (ci, fs)) ∧ CL[ci]? = some z ∧ z.1 = "StreamTransport$Outflow" ∧ ab_nos av' ∧ ab_Met l KT CL y_Otf_countAllowed (Cond.code y_Otf_countAllowed prog_6_method_9_code 5 (some .int) :: ab_gW) 1 21 none av m (some (.inl r.1)) r.2 := by
  obtain ⟨v0, v1, hav, h⟩ := c_Otf_countAllowed_inv h0
  rw [r_Otf_countAllowed_eq] at h
  have hmo : ab_mo m r.2 := ab_kp_mo (kp_Otf_countAllowed h0)
  subst hav
  exact ⟨_, _, _, _, _, _, rfl, rfl, by decide, rfl, rfl, rfl, (by intro v hv q e; subst e; simp at hv), ab_met (by decide +kernel) KT_0 KT_nd KT_k3 E_Otf_countAllowed (cl_Otf_countAllowed l) hmo (Nat.le_of_ble_eq_true rfl) (ab_rI_inv h) (fun v hv => by cases hv; exact ⟨_, rfl⟩)⟩
/-! StreamTransport$Outflow.choosePart(ILStreamTransport$Sent;I)Z -/
def y_Otf_choosePart : MethodName := ⟨"StreamTransport$Outflow", "choosePart", "(ILStreamTransport$Sent;I)Z"⟩
def t_Otf_choosePart (pc : Nat) : Option Ent :=
  bif Nat.blt pc 99 then
    (bif Nat.blt pc 50 then
      (bif Nat.blt pc 23 then
        (bif Nat.blt pc 10 then
          (bif Nat.blt pc 5 then
            (bif Nat.blt pc 1 then
              (bif Nat.beq pc 0 then some (.aload_n 0, 0, 0, 0, 0) else none)
            else
              bif Nat.blt pc 4 then
                (bif Nat.beq pc 1 then some (.getfield 11, 4, 0, 1, 0) else none)
              else
                bif Nat.beq pc 4 then some (.iload_n 3, 3, 0, 0, 0) else none)
          else
            bif Nat.blt pc 6 then
              (bif Nat.beq pc 5 then some (.aaload, 0, 0, 0, 0) else none)
            else
              bif Nat.blt pc 8 then
                (bif Nat.beq pc 6 then some (.astore 4, 4, 0, 0, 0) else none)
              else
                bif Nat.beq pc 8 then some (.aload 4, 4, 0, 0, 0) else none)
        else
          bif Nat.blt pc 17 then
            (bif Nat.blt pc 13 then
              (bif Nat.beq pc 10 then some (.invokevirtual 82, 35, 1, 1, 0) else none)
            else
              bif Nat.blt pc 15 then
                (bif Nat.beq pc 13 then some (.istore 5, 5, 0, 0, 0) else none)
              else
                bif Nat.beq pc 15 then some (.iload 5, 5, 0, 0, 0) else none)
          else
            bif Nat.blt pc 18 then
              (bif Nat.beq pc 17 then some (.iconst (-1), 0, 0, 0, -1) else none)
            else
              bif Nat.blt pc 21 then
                (bif Nat.beq pc 18 then some (.if_icmp .ne (11), 29, 0, 0, 0) else none)
              else
                bif Nat.beq pc 21 then some (.aload 4, 4, 0, 0, 0) else none)
      else
        bif Nat.blt pc 36 then
          (bif Nat.blt pc 31 then
            (bif Nat.blt pc 26 then
              (bif Nat.beq pc 23 then some (.getfield 41, 5, 3, 0, 0) else none)
            else
              bif Nat.blt pc 29 then
                (bif Nat.beq pc 26 then some (.goto 5, 31, 0, 0, 0) else none)
              else
                bif Nat.beq pc 29 then some (.iload 5, 5, 0, 0, 0) else none)
          else
            bif Nat.blt pc 33 then
              (bif Nat.beq pc 31 then some (.istore 6, 6, 0, 0, 0) else none)
            else
              bif Nat.blt pc 35 then
                (bif Nat.beq pc 33 then some (.iload 5, 5, 0, 0, 0) else none)
              else
                bif Nat.beq pc 35 then some (.iconst (-1), 0, 0, 0, -1) else none)
        else
          bif Nat.blt pc 42 then
            (bif Nat.blt pc 39 then
              (bif Nat.beq pc 36 then some (.if_icmp .ne (12), 48, 0, 0, 0) else none)
            else
              bif Nat.blt pc 40 then
                (bif Nat.beq pc 39 then some (.aload_n 0, 0, 0, 0, 0) else none)
              else
                bif Nat.beq pc 40 then some (.aload 4, 4, 0, 0, 0) else none)
          else
            bif Nat.blt pc 45 then
              (bif Nat.beq pc 42 then some (.invokevirtual 85, 44, 2, 1, 0) else none)
            else
              bif Nat.blt pc 48 then
                (bif Nat.beq pc 45 then some (.goto 10, 55, 0, 0, 0) else none)
              else
                bif Nat.beq pc 48 then some (.aload 4, 4, 0, 0, 0) else none)
    else
      bif Nat.blt pc 70 then
        (bif Nat.blt pc 61 then
          (bif Nat.blt pc 57 then
            (bif Nat.blt pc 52 then
              (bif Nat.beq pc 50 then some (.iload 5, 5, 0, 0, 0) else none)
            else
              bif Nat.blt pc 55 then
                (bif Nat.beq pc 52 then some (.invokevirtual 89, 36, 2, 1, 0) else none)
              else
                bif Nat.beq pc 55 then some (.istore 7, 7, 0, 0, 0) else none)
          else
            bif Nat.blt pc 58 then
              (bif Nat.beq pc 57 then some (.iload_n 1, 1, 0, 0, 0) else none)
            else
              bif Nat.blt pc 59 then
                (bif Nat.beq pc 58 then some (.iconst 2, 0, 0, 0, 2) else none)
              else
                bif Nat.beq pc 59 then some (.iload 6, 6, 0, 0, 0) else none)
        else
          bif Nat.blt pc 66 then
            (bif Nat.blt pc 64 then
              (bif Nat.beq pc 61 then some (.invokestatic 44, 4, 1, 1, 0) else none)
            else
              bif Nat.blt pc 65 then
                (bif Nat.beq pc 64 then some (.iadd, 0, 0, 0, 0) else none)
              else
                bif Nat.beq pc 65 then some (.iconst 1, 0, 0, 0, 1) else none)
          else
            bif Nat.blt pc 67 then
              (bif Nat.beq pc 66 then some (.iadd, 0, 0, 0, 0) else none)
            else
              bif Nat.blt pc 68 then
                (bif Nat.beq pc 67 then some (.isub, 0, 0, 0, 0) else none)
              else
                bif Nat.beq pc 68 then some (.istore 8, 8, 0, 0, 0) else none)
      else
        bif Nat.blt pc 84 then
          (bif Nat.blt pc 77 then
            (bif Nat.blt pc 72 then
              (bif Nat.beq pc 70 then some (.iload 7, 7, 0, 0, 0) else none)
            else
              bif Nat.blt pc 74 then
                (bif Nat.beq pc 72 then some (.bipush 12, 0, 0, 0, 12) else none)
              else
                bif Nat.beq pc 74 then some (.invokestatic 92, 2, 2, 1, 0) else none)
          else
            bif Nat.blt pc 79 then
              (bif Nat.beq pc 77 then some (.iload 8, 8, 0, 0, 0) else none)
            else
              bif Nat.blt pc 82 then
                (bif Nat.beq pc 79 then some (.invokestatic 92, 2, 2, 1, 0) else none)
              else
                bif Nat.beq pc 82 then some (.istore 9, 9, 0, 0, 0) else none)
        else
          bif Nat.blt pc 91 then
            (bif Nat.blt pc 86 then
              (bif Nat.beq pc 84 then some (.iload 7, 7, 0, 0, 0) else none)
            else
              bif Nat.blt pc 89 then
                (bif Nat.beq pc 86 then some (.ifCond .ne (20), 106, 0, 0, 0) else none)
              else
                bif Nat.beq pc 89 then some (.iload 8, 8, 0, 0, 0) else none)
          else
            bif Nat.blt pc 94 then
              (bif Nat.beq pc 91 then some (.ifCond .lt (15), 106, 0, 0, 0) else none)
            else
              bif Nat.blt pc 96 then
                (bif Nat.beq pc 94 then some (.aload 4, 4, 0, 0, 0) else none)
              else
                bif Nat.beq pc 96 then some (.invokevirtual 95, 38, 1, 1, 0) else none)
  else
    bif Nat.blt pc 142 then
      (bif Nat.blt pc 122 then
        (bif Nat.blt pc 111 then
          (bif Nat.blt pc 106 then
            (bif Nat.blt pc 102 then
              (bif Nat.beq pc 99 then some (.ifCond .eq (7), 106, 0, 0, 0) else none)
            else
              bif Nat.blt pc 103 then
                (bif Nat.beq pc 102 then some (.iconst 1, 0, 0, 0, 1) else none)
              else
                bif Nat.beq pc 103 then some (.goto 4, 107, 0, 0, 0) else none)
          else
            bif Nat.blt pc 107 then
              (bif Nat.beq pc 106 then some (.iconst 0, 0, 0, 0, 0) else none)
            else
              bif Nat.blt pc 109 then
                (bif Nat.beq pc 107 then some (.istore 10, 10, 0, 0, 0) else none)
              else
                bif Nat.beq pc 109 then some (.iload 9, 9, 0, 0, 0) else none)
        else
          bif Nat.blt pc 117 then
            (bif Nat.blt pc 112 then
              (bif Nat.beq pc 111 then some (.iconst 1, 0, 0, 0, 1) else none)
            else
              bif Nat.blt pc 115 then
                (bif Nat.beq pc 112 then some (.if_icmp .ge (10), 122, 0, 0, 0) else none)
              else
                bif Nat.beq pc 115 then some (.iload 10, 10, 0, 0, 0) else none)
          else
            bif Nat.blt pc 120 then
              (bif Nat.beq pc 117 then some (.ifCond .ne (5), 122, 0, 0, 0) else none)
            else
              bif Nat.blt pc 121 then
                (bif Nat.beq pc 120 then some (.iconst 0, 0, 0, 0, 0) else none)
              else
                bif Nat.beq pc 121 then some (.ireturn, 0, 0, 1, 0) else none)
      else
        bif Nat.blt pc 131 then
          (bif Nat.blt pc 127 then
            (bif Nat.blt pc 123 then
              (bif Nat.beq pc 122 then some (.aload_n 2, 2, 0, 0, 0) else none)
            else
              bif Nat.blt pc 126 then
                (bif Nat.beq pc 123 then some (.getfield 98, 8, 4, 1, 0) else none)
              else
                bif Nat.beq pc 126 then some (.iload_n 3, 3, 0, 0, 0) else none)
          else
            bif Nat.blt pc 129 then
              (bif Nat.beq pc 127 then some (.iload 6, 6, 0, 0, 0) else none)
            else
              bif Nat.blt pc 130 then
                (bif Nat.beq pc 129 then some (.iastore, 0, 0, 0, 0) else none)
              else
                bif Nat.beq pc 130 then some (.aload_n 2, 2, 0, 0, 0) else none)
        else
          bif Nat.blt pc 137 then
            (bif Nat.blt pc 134 then
              (bif Nat.beq pc 131 then some (.getfield 102, 8, 5, 1, 0) else none)
            else
              bif Nat.blt pc 135 then
                (bif Nat.beq pc 134 then some (.iload_n 3, 3, 0, 0, 0) else none)
              else
                bif Nat.beq pc 135 then some (.iload 9, 9, 0, 0, 0) else none)
          else
            bif Nat.blt pc 138 then
              (bif Nat.beq pc 137 then some (.iastore, 0, 0, 0, 0) else none)
            else
              bif Nat.blt pc 139 then
                (bif Nat.beq pc 138 then some (.aload_n 2, 2, 0, 0, 0) else none)
              else
                bif Nat.beq pc 139 then some (.getfield 105, 8, 6, 1, 0) else none)
    else
      bif Nat.blt pc 168 then
        (bif Nat.blt pc 155 then
          (bif Nat.blt pc 148 then
            (bif Nat.blt pc 143 then
              (bif Nat.beq pc 142 then some (.iload_n 3, 3, 0, 0, 0) else none)
            else
              bif Nat.blt pc 145 then
                (bif Nat.beq pc 143 then some (.aload 4, 4, 0, 0, 0) else none)
              else
                bif Nat.beq pc 145 then some (.getfield 108, 5, 5, 0, 0) else none)
          else
            bif Nat.blt pc 151 then
              (bif Nat.beq pc 148 then some (.ifCond .eq (20), 168, 0, 0, 0) else none)
            else
              bif Nat.blt pc 153 then
                (bif Nat.beq pc 151 then some (.iload 6, 6, 0, 0, 0) else none)
              else
                bif Nat.beq pc 153 then some (.iload 9, 9, 0, 0, 0) else none)
        else
          bif Nat.blt pc 161 then
            (bif Nat.blt pc 156 then
              (bif Nat.beq pc 155 then some (.iadd, 0, 0, 0, 0) else none)
            else
              bif Nat.blt pc 158 then
                (bif Nat.beq pc 156 then some (.aload 4, 4, 0, 0, 0) else none)
              else
                bif Nat.beq pc 158 then some (.getfield 111, 5, 2, 0, 0) else none)
          else
            bif Nat.blt pc 164 then
              (bif Nat.beq pc 161 then some (.if_icmp .ne (7), 168, 0, 0, 0) else none)
            else
              bif Nat.blt pc 165 then
                (bif Nat.beq pc 164 then some (.iconst 1, 0, 0, 0, 1) else none)
              else
                bif Nat.beq pc 165 then some (.goto 4, 169, 0, 0, 0) else none)
      else
        bif Nat.blt pc 179 then
          (bif Nat.blt pc 172 then
            (bif Nat.blt pc 169 then
              (bif Nat.beq pc 168 then some (.iconst 0, 0, 0, 0, 0) else none)
            else
              bif Nat.blt pc 170 then
                (bif Nat.beq pc 169 then some (.bastore, 0, 0, 0, 0) else none)
              else
                bif Nat.beq pc 170 then some (.aload 4, 4, 0, 0, 0) else none)
          else
            bif Nat.blt pc 174 then
              (bif Nat.beq pc 172 then some (.aload 4, 4, 0, 0, 0) else none)
            else
              bif Nat.blt pc 177 then
                (bif Nat.beq pc 174 then some (.getfield 41, 5, 3, 0, 0) else none)
              else
                bif Nat.beq pc 177 then some (.iload 6, 6, 0, 0, 0) else none)
        else
          bif Nat.blt pc 185 then
            (bif Nat.blt pc 181 then
              (bif Nat.beq pc 179 then some (.iload 9, 9, 0, 0, 0) else none)
            else
              bif Nat.blt pc 182 then
                (bif Nat.beq pc 181 then some (.iadd, 0, 0, 0, 0) else none)
              else
                bif Nat.beq pc 182 then some (.invokestatic 24, 1, 2, 1, 0) else none)
          else
            bif Nat.blt pc 188 then
              (bif Nat.beq pc 185 then some (.putfield 41, 5, 3, 0, 0) else none)
            else
              bif Nat.blt pc 189 then
                (bif Nat.beq pc 188 then some (.iconst 1, 0, 0, 0, 1) else none)
              else
                bif Nat.beq pc 189 then some (.ireturn, 0, 0, 1, 0) else none
def i_Otf_choosePart : Nat → Option Ent := ab_tab 190 t_Otf_choosePart
def h_Otf_choosePart (pc : Nat) : Nat × List Bool := bif Nat.beq pc 31 then (1, [true, true, true, true, true, true, false, false, false, false, false]) else bif Nat.beq pc 55 then (1, [false, true, true, true, true, false, true, false, false, false, false]) else bif Nat.beq pc 106 then (1, [false, false, true, true, true, false, true, false, false, true, false]) else bif Nat.beq pc 107 then (1, [false, false, true, true, true, false, true, false, false, true, false]) else bif Nat.beq pc 122 then (1, [false, false, true, true, true, false, true, false, false, true, false]) else bif Nat.beq pc 168 then (1, [false, false, false, false, true, false, true, false, false, true, false]) else bif Nat.beq pc 169 then (1, [false, false, false, false, true, false, true, false, false, true, false]) else (0, [])
def s_Otf_choosePart (pc : Nat) : List (Int32 × Nat) × Nat := ([], 0)
noncomputable def eV_Otf_choosePart : Nat → List AV → Mm → Option Mm := ab_ev []
noncomputable def eI_Otf_choosePart : Nat → List AV → Mm → Option (Int32 × Mm) := ab_ev [(35, c_Out_firstLost), (44, c_Otf_countAllowed), (36, c_Out_countLostFrom), (4, c_X_sizeOf), (2, c_Math_min), (38, c_Out_owesEndAlone), (1, c_Math_max)]
noncomputable def b_Otf_choosePart_0 (f : Nat) (v0 : Nat) (v1 : Int32) (v2 : Nat) (v3 : Int32) (m : Mm) : Option Rs := ab_ex KT none s_Otf_choosePart eV_Otf_choosePart eI_Otf_choosePart i_Otf_choosePart h_Otf_choosePart f 0 [some (.inr (.inr (17, some v0))), some (.inl v1), some (.inr (.inr (22, some v2))), some (.inl v3), none, none, none, none, none, none, none] [] m
noncomputable def b_Otf_choosePart_31 (f : Nat) (v0 : Nat) (v1 : Int32) (v2 : Nat) (v3 : Int32) (v4 : Nat) (v5 : Int32) (u0 : Int32) (m : Mm) : Option Rs := ab_ex KT none s_Otf_choosePart eV_Otf_choosePart eI_Otf_choosePart i_Otf_choosePart h_Otf_choosePart f 31 [some (.inr (.inr (17, some v0))), some (.inl v1), some (.inr (.inr (22, some v2))), some (.inl v3), some (.inr (.inr (19, some v4))), some (.inl v5), none, none, none, none, none] [.inl u0] m
noncomputable def b_Otf_choosePart_55 (f : Nat) (v1 : Int32) (v2 : Nat) (v3 : Int32) (v4 : Nat) (v6 : Int32) (u0 : Int32) (m : Mm) : Option Rs := ab_ex KT none s_Otf_choosePart eV_Otf_choosePart eI_Otf_choosePart i_Otf_choosePart h_Otf_choosePart f 55 [none, some (.inl v1), some (.inr (.inr (22, some v2))), some (.inl v3), some (.inr (.inr (19, some v4))), none, some (.inl v6), none, none, none, none] [.inl u0] m
noncomputable def b_Otf_choosePart_106 (f : Nat) (v2 : Nat) (v3 : Int32) (v4 : Nat) (v6 : Int32) (v9 : Int32) (m : Mm) : Option Rs := ab_ex KT none s_Otf_choosePart eV_Otf_choosePart eI_Otf_choosePart i_Otf_choosePart h_Otf_choosePart f 106 [none, none, some (.inr (.inr (22, some v2))), some (.inl v3), some (.inr (.inr (19, some v4))), none, some (.inl v6), none, none, some (.inl v9), none] [] m
noncomputable def b_Otf_choosePart_107 (f : Nat) (v2 : Nat) (v3 : Int32) (v4 : Nat) (v6 : Int32) (v9 : Int32) (u0 : Int32) (m : Mm) : Option Rs := ab_ex KT none s_Otf_choosePart eV_Otf_choosePart eI_Otf_choosePart i_Otf_choosePart h_Otf_choosePart f 107 [none, none, some (.inr (.inr (22, some v2))), some (.inl v3), some (.inr (.inr (19, some v4))), none, some (.inl v6), none, none, some (.inl v9), none] [.inl u0] m
noncomputable def b_Otf_choosePart_122 (f : Nat) (v2 : Nat) (v3 : Int32) (v4 : Nat) (v6 : Int32) (v9 : Int32) (m : Mm) : Option Rs := ab_ex KT none s_Otf_choosePart eV_Otf_choosePart eI_Otf_choosePart i_Otf_choosePart h_Otf_choosePart f 122 [none, none, some (.inr (.inr (22, some v2))), some (.inl v3), some (.inr (.inr (19, some v4))), none, some (.inl v6), none, none, some (.inl v9), none] [] m
noncomputable def b_Otf_choosePart_168 (f : Nat) (v4 : Nat) (v6 : Int32) (v9 : Int32) (u0 : Nat) (u1 : Int32) (m : Mm) : Option Rs := ab_ex KT none s_Otf_choosePart eV_Otf_choosePart eI_Otf_choosePart i_Otf_choosePart h_Otf_choosePart f 168 [none, none, none, none, some (.inr (.inr (19, some v4))), none, some (.inl v6), none, none, some (.inl v9), none] [.inl u1, .inr (.inr (26, some u0))] m
noncomputable def b_Otf_choosePart_169 (f : Nat) (v4 : Nat) (v6 : Int32) (v9 : Int32) (u0 : Nat) (u1 : Int32) (u2 : Int32) (m : Mm) : Option Rs := ab_ex KT none s_Otf_choosePart eV_Otf_choosePart eI_Otf_choosePart i_Otf_choosePart h_Otf_choosePart f 169 [none, none, none, none, some (.inr (.inr (19, some v4))), none, some (.inl v6), none, none, some (.inl v9), none] [.inl u2, .inl u1, .inr (.inr (26, some u0))] m
set_option maxRecDepth 100000 in
set_option maxHeartbeats 4000000 in
theorem b_Otf_choosePart_0_eq (f : Nat) (v0 : Nat) (v1 : Int32) (v2 : Nat) (v3 : Int32) (m : Mm) : b_Otf_choosePart_0 (f + 1) v0 v1 v2 v3 m =
    (ab_ix v3 4).bind fun i1 =>
    (r_Out_firstLost ((v0 + 1) + 1 + 3 * i1) m).bind fun z2 =>
    if z2.1 = (-1 : Int32) then
      b_Otf_choosePart_31 f v0 v1 v2 v3 ((v0 + 1) + 1 + 3 * i1) z2.1 (z2.2.1 60 ((v0 + 1) + 1 + 3 * i1) 0) z2.2
    else
      b_Otf_choosePart_31 f v0 v1 v2 v3 ((v0 + 1) + 1 + 3 * i1) z2.1 z2.1 z2.2 := rfl
set_option maxRecDepth 100000 in
set_option maxHeartbeats 4000000 in
theorem b_Otf_choosePart_31_eq (f : Nat) (v0 : Nat) (v1 : Int32) (v2 : Nat) (v3 : Int32) (v4 : Nat) (v5 : Int32) (u0 : Int32) (m : Mm) : b_Otf_choosePart_31 (f + 1) v0 v1 v2 v3 v4 v5 u0 m =
    if v5 = (-1 : Int32) then
      (r_Otf_countAllowed v0 v4 m).bind fun z2 =>
      b_Otf_choosePart_55 f v1 v2 v3 v4 u0 z2.1 z2.2
    else
      (r_Out_countLostFrom v4 v5 m).bind fun z1 =>
      b_Otf_choosePart_55 f v1 v2 v3 v4 u0 z1.1 z1.2 := rfl
set_option maxRecDepth 100000 in
set_option maxHeartbeats 4000000 in
theorem b_Otf_choosePart_55_eq (f : Nat) (v1 : Int32) (v2 : Nat) (v3 : Int32) (v4 : Nat) (v6 : Int32) (u0 : Int32) (m : Mm) : b_Otf_choosePart_55 (f + 1) v1 v2 v3 v4 v6 u0 m =
    (r_X_sizeOf v6 m).bind fun z1 =>
    ab_let ((v1 - (((2 : Int32) + z1.1) + (1 : Int32)))) fun x2 =>
    (r_Math_min u0 (12 : Int32) z1.2).bind fun z3 =>
    (r_Math_min z3.1 x2 z3.2).bind fun z4 =>
    if u0 = 0 then
      if x2 < 0 then
        b_Otf_choosePart_106 f v2 v3 v4 v6 z4.1 z4.2
      else
        (r_Out_owesEndAlone v4 z4.2).bind fun z5 =>
        if z5.1 = 0 then
          b_Otf_choosePart_106 f v2 v3 v4 v6 z4.1 z5.2
        else
          b_Otf_choosePart_107 f v2 v3 v4 v6 z4.1 (1 : Int32) z5.2
    else
      b_Otf_choosePart_106 f v2 v3 v4 v6 z4.1 z4.2 := rfl
set_option maxRecDepth 100000 in
set_option maxHeartbeats 4000000 in
theorem b_Otf_choosePart_106_eq (f : Nat) (v2 : Nat) (v3 : Int32) (v4 : Nat) (v6 : Int32) (v9 : Int32) (m : Mm) : b_Otf_choosePart_106 (f + 1) v2 v3 v4 v6 v9 m =
    b_Otf_choosePart_107 f v2 v3 v4 v6 v9 (0 : Int32) m := rfl
set_option maxRecDepth 100000 in
set_option maxHeartbeats 4000000 in
theorem b_Otf_choosePart_107_eq (f : Nat) (v2 : Nat) (v3 : Int32) (v4 : Nat) (v6 : Int32) (v9 : Int32) (u0 : Int32) (m : Mm) : b_Otf_choosePart_107 (f + 1) v2 v3 v4 v6 v9 u0 m =
    if (1 : Int32) ≤ v9 then
      b_Otf_choosePart_122 f v2 v3 v4 v6 v9 m
    else
      if u0 = 0 then
        (ab_bo (0 : Int32)).bind fun y1 => some (.inl (some (.inl y1), m))
      else
        b_Otf_choosePart_122 f v2 v3 v4 v6 v9 m := rfl
set_option maxRecDepth 100000 in
set_option maxHeartbeats 4000000 in
theorem b_Otf_choosePart_122_eq (f : Nat) (v2 : Nat) (v3 : Int32) (v4 : Nat) (v6 : Int32) (v9 : Int32) (m : Mm) : b_Otf_choosePart_122 (f + 1) v2 v3 v4 v6 v9 m =
    (ab_ix v3 4).bind fun i1 =>
    ab_let (ab_uI m 77 (v2 + 2) i1 v6) fun m2 =>
    (ab_ix v3 4).bind fun i3 =>
    ab_let (ab_uI m2 78 (v2 + 3) i3 v9) fun m4 =>
    if (m4.1 62 v4 0) = 0 then
      b_Otf_choosePart_168 f v4 v6 v9 (v2 + 4) v3 m4
    else
      if (v6 + v9) = (m4.1 59 v4 0) then
        b_Otf_choosePart_169 f v4 v6 v9 (v2 + 4) v3 (1 : Int32) m4
      else
        b_Otf_choosePart_168 f v4 v6 v9 (v2 + 4) v3 m4 := rfl
set_option maxRecDepth 100000 in
set_option maxHeartbeats 4000000 in
theorem b_Otf_choosePart_168_eq (f : Nat) (v4 : Nat) (v6 : Int32) (v9 : Int32) (u0 : Nat) (u1 : Int32) (m : Mm) : b_Otf_choosePart_168 (f + 1) v4 v6 v9 u0 u1 m =
    b_Otf_choosePart_169 f v4 v6 v9 u0 u1 (0 : Int32) m := rfl
set_option maxRecDepth 100000 in
set_option maxHeartbeats 4000000 in
theorem b_Otf_choosePart_169_eq (f : Nat) (v4 : Nat) (v6 : Int32) (v9 : Int32) (u0 : Nat) (u1 : Int32) (u2 : Int32) (m : Mm) : b_Otf_choosePart_169 (f + 1) v4 v6 v9 u0 u1 u2 m =
    (ab_ix u1 4).bind fun i1 =>
    (ab_bo u2).bind fun y3 =>
    ab_let (ab_uI m 79 u0 i1 y3) fun m2 =>
    (r_Math_max (m2.1 60 v4 0) (v6 + v9) m2).bind fun z4 =>
    ab_let (ab_uI z4.2 60 v4 0 z4.1) fun m5 =>
    (ab_bo (1 : Int32)).bind fun y6 => some (.inl (some (.inl y6), m5)) := rfl
noncomputable def r_Otf_choosePart : Nat → Int32 → Nat → Int32 → Mm → Option (Int32 × Mm) := ab_seal fun v0 v1 v2 v3 m => ab_rI (b_Otf_choosePart_0 50000 v0 v1 v2 v3 m)
theorem r_Otf_choosePart_eq (v0 : Nat) (v1 : Int32) (v2 : Nat) (v3 : Int32) (m : Mm) : r_Otf_choosePart v0 v1 v2 v3 m = ab_rI (b_Otf_choosePart_0 50000 v0 v1 v2 v3 m) := by
  unfold r_Otf_choosePart
  rw [ab_seal_eq]
noncomputable def c_Otf_choosePart : List AV → Mm → Option (Int32 × Mm) := fun av m => match av with
  | [.inr (.inr (kv0, ov0)), .inl v1, .inr (.inr (kv2, ov2)), .inl v3] => if kv0 = 17 then (if kv2 = 22 then (ov0.bind fun v0 => ov2.bind fun v2 => r_Otf_choosePart v0 v1 v2 v3 m) else none) else none
  | _ => none
theorem c_Otf_choosePart_inv {av : List AV} {m : Mm} {r : Int32 × Mm} (h : c_Otf_choosePart av m = some r) : ∃ (v0 : Nat) (v1 : Int32) (v2 : Nat) (v3 : Int32), av = [.inr (.inr (17, some v0)), .inl v1, .inr (.inr (22, some v2)), .inl v3] ∧ r_Otf_choosePart v0 v1 v2 v3 m = some r := by
  unfold c_Otf_choosePart at h
  split at h
  · rename_i kv0 ov0 v1 kv2 ov2 v3
    by_cases hkv0 : kv0 = 17
    case neg => rw [if_neg hkv0] at h; cases h
    rw [if_pos hkv0] at h
    subst hkv0
    by_cases hkv2 : kv2 = 22
    case neg => rw [if_neg hkv2] at h; cases h
    rw [if_pos hkv2] at h
    subst hkv2
    obtain ⟨v0, hev0, h⟩ := Option.bind_eq_some_iff.mp h
    obtain ⟨v2, hev2, h⟩ := Option.bind_eq_some_iff.mp h
    subst hev0
    subst hev2
    exact ⟨v0, v1, v2, v3, rfl, h⟩
  · cases h
def cs_Otf_choosePart : List Nat := [10, 42, 52, 61, 74, 79, 96, 182]
set_option maxRecDepth 100000 in
theorem E_Otf_choosePart : ∀ (pc : Nat) (q : Ent), i_Otf_choosePart pc = some q → ab_E KT CL ab_gW "StreamTransport$Outflow" "choosePart" (some .boolean) prog_6_method_7_code s_Otf_choosePart 11 pc q.1 q.2.1 q.2.2.1 q.2.2.2.1 q.2.2.2.2 := fun pc q hq =>
  ab_Eb_ok lc_Otf lj_Otf fl_Otf (fpn_Otf "choosePart") nw_Otf na_Otf nq_Otf (ab_tab_all (t := t_Otf_choosePart) (chk := fun pc q => ab_Eb (some .boolean) prog_6_method_7_code s_Otf_choosePart 11 LC_Otf LJ_Otf FL_Otf FPn_Otf NW_Otf NA_Otf NQ_Otf pc q.1 q.2.1 q.2.2.1 q.2.2.2.1 q.2.2.2.2) (by decide +kernel) hq)
set_option maxRecDepth 100000 in
theorem kp_Otf_choosePart {av : List AV} {m : Mm} {r : Int32 × Mm} (h : c_Otf_choosePart av m = some r) : ab_kp m r.2 := by
  obtain ⟨v0, v1, v2, v3, -, h⟩ := c_Otf_choosePart_inv h
  rw [r_Otf_choosePart_eq] at h
  have hV : ∀ a av m m', eV_Otf_choosePart a av m = some m' → ab_kp m m' := ab_ev_all (P := fun _ m r => ab_kp m r) [] (fun q hq => by cases hq)
  have hI : ∀ a av m q, eI_Otf_choosePart a av m = some q → ab_kp m q.2 := ab_ev_all (P := fun _ (m : Mm) (r : Int32 × Mm) => ab_kp m r.2) [(35, c_Out_firstLost), (44, c_Otf_countAllowed), (36, c_Out_countLostFrom), (4, c_X_sizeOf), (2, c_Math_min), (38, c_Out_owesEndAlone), (1, c_Math_max)] (List.forall_mem_cons.mpr ⟨fun av m r h => kp_Out_firstLost h, List.forall_mem_cons.mpr ⟨fun av m r h => kp_Otf_countAllowed h, List.forall_mem_cons.mpr ⟨fun av m r h => kp_Out_countLostFrom h, List.forall_mem_cons.mpr ⟨fun av m r h => kp_X_sizeOf h, List.forall_mem_cons.mpr ⟨fun av m r h => kp_Math_min h, List.forall_mem_cons.mpr ⟨fun av m r h => kp_Out_owesEndAlone h, List.forall_mem_cons.mpr ⟨fun av m r h => kp_Math_max h, fun q hq => by cases hq⟩⟩⟩⟩⟩⟩⟩)
  exact ab_kprel (ρ := .inl (some (.inl r.1), r.2)) (ab_tab_isn (t := t_Otf_choosePart) (by decide +kernel)) hV hI (ab_rI_inv h)
set_option maxRecDepth 100000 in
theorem cl_Otf_choosePart (l : Launch) : ∀ (pc : Nat) (q : Ent), i_Otf_choosePart pc = some q → ab_inv q.1 = true → ab_CR l KT CL none ab_gW "StreamTransport$Outflow" prog_6_method_7_code 11 2 45 eV_Otf_choosePart eI_Otf_choosePart pc q := by
  intro pc q hq hi
  have hm : pc ∈ cs_Otf_choosePart := ab_tab_cs (t := t_Otf_choosePart) (by decide +kernel) hq hi
  simp only [cs_Otf_choosePart, List.mem_cons, List.not_mem_nil, or_false] at hm
  rcases hm with rfl | rfl | rfl | rfl | rfl | rfl | rfl | rfl
  · cases (Option.some.inj hq : ((.invokevirtual 82, 35, 1, 1, 0) : Ent) = q)
    exact ab_crV (C := "StreamTransport$Outgoing") (by decide +kernel) cw_Out_firstLost (ab_gW_in 549 (by decide +kernel) rfl) is_Out_firstLost sl_Out_firstLost (by decide) (fun av m m' h => by cases h) (fun av m r h => cm_Out_firstLost l h) KT_nd
  · cases (Option.some.inj hq : ((.invokevirtual 85, 44, 2, 1, 0) : Ent) = q)
    exact ab_crV (C := "StreamTransport$Outflow") (by decide +kernel) cw_Otf_countAllowed (ab_gW_in 553 (by decide +kernel) rfl) is_Otf_countAllowed sl_Otf_countAllowed (by decide) (fun av m m' h => by cases h) (fun av m r h => cm_Otf_countAllowed l h) KT_nd
  · cases (Option.some.inj hq : ((.invokevirtual 89, 36, 2, 1, 0) : Ent) = q)
    exact ab_crV (C := "StreamTransport$Outgoing") (by decide +kernel) cw_Out_countLostFrom (ab_gW_in 561 (by decide +kernel) rfl) is_Out_countLostFrom sl_Out_countLostFrom (by decide) (fun av m m' h => by cases h) (fun av m r h => cm_Out_countLostFrom l h) KT_nd
  · cases (Option.some.inj hq : ((.invokestatic 44, 4, 1, 1, 0) : Ent) = q)
    exact ab_crSN (by decide +kernel) cw_X_sizeOf (by decide +kernel) st_X_sizeOf (by decide) (fun av m m' h => by cases h) (fun av m r h => cm_X_sizeOf l h) KT_nd
  · cases (Option.some.inj hq : ((.invokestatic 92, 2, 2, 1, 0) : Ent) = q)
    exact ab_crS (by decide +kernel) cw_Math_min (ab_gW_in 557 (by decide +kernel) rfl) st_Math_min (by decide) (fun av m m' h => by cases h) (fun av m r h => cm_Math_min l h) KT_nd
  · cases (Option.some.inj hq : ((.invokestatic 92, 2, 2, 1, 0) : Ent) = q)
    exact ab_crS (by decide +kernel) cw_Math_min (ab_gW_in 557 (by decide +kernel) rfl) st_Math_min (by decide) (fun av m m' h => by cases h) (fun av m r h => cm_Math_min l h) KT_nd
  · cases (Option.some.inj hq : ((.invokevirtual 95, 38, 1, 1, 0) : Ent) = q)
    exact ab_crV (C := "StreamTransport$Outgoing") (by decide +kernel) cw_Out_owesEndAlone (ab_gW_in 565 (by decide +kernel) rfl) is_Out_owesEndAlone sl_Out_owesEndAlone (by decide) (fun av m m' h => by cases h) (fun av m r h => cm_Out_owesEndAlone l h) KT_nd
  · cases (Option.some.inj hq : ((.invokestatic 24, 1, 2, 1, 0) : Ent) = q)
    exact ab_crS (by decide +kernel) cw_Math_max (ab_gW_in 558 (by decide +kernel) rfl) st_Math_max (by decide) (fun av m m' h => by cases h) (fun av m r h => cm_Math_max l h) KT_nd
theorem cw_Otf_choosePart : ab_cw y_Otf_choosePart prog_6_method_7_code 11 3 (some .boolean) := ⟨ab_gW_in 548 (by decide +kernel) rfl, ab_gW_in 69 (by decide +kernel) rfl, by decide +kernel, by decide +kernel, by decide +kernel⟩
theorem is_Otf_choosePart : Cond.instanceMethod y_Otf_choosePart ∈ ab_gW := ab_gW_in 547 (by decide +kernel) rfl
theorem sl_Otf_choosePart : Cond.selects "StreamTransport$Outflow" y_Otf_choosePart y_Otf_choosePart ∈ ab_gW := ab_gW_in 6 (by decide +kernel) rfl
set_option maxRecDepth 100000 in
theorem cm_Otf_choosePart (l : Launch) {av : List AV} {m : Mm} {r : Int32 × Mm} (h0 : c_Otf_choosePart av m = some r) : ∃ (k q : Nat) (av' : List AV) (ci : Nat) (fs : List (Nat × Nat × Nat × Nat)) (z : vw_C), av = .inr (.inr (k, some q)) :: av' ∧ av'.length = 3 ∧ k ≠ 0 ∧ KT[k]? = some (.inl (ci, fs)) ∧ CL[ci]? = some z ∧ z.1 = "StreamTransport$Outflow" ∧ ab_nos av' ∧ ab_Met l KT CL y_Otf_choosePart (Cond.code y_Otf_choosePart prog_6_method_7_code 11 (some .boolean) :: ab_gW) 2 45 none av m (some (.inl r.1)) r.2 := by
  obtain ⟨v0, v1, v2, v3, hav, h⟩ := c_Otf_choosePart_inv h0
  rw [r_Otf_choosePart_eq] at h
  have hmo : ab_mo m r.2 := ab_kp_mo (kp_Otf_choosePart h0)
  subst hav
  exact ⟨_, _, _, _, _, _, rfl, rfl, by decide, rfl, rfl, rfl, (by intro v hv q e; subst e; simp at hv), ab_met (by decide +kernel) KT_0 KT_nd KT_k3 E_Otf_choosePart (cl_Otf_choosePart l) hmo (Nat.le_of_ble_eq_true rfl) (ab_rI_inv h) (fun v hv => by cases hv; exact ⟨_, rfl⟩)⟩
/-! StreamTransport$Outflow.putPart(LStreamTransport$Row;LStreamTransport$Sent;I)V -/
def y_Otf_putPart : MethodName := ⟨"StreamTransport$Outflow", "putPart", "(LStreamTransport$Row;LStreamTransport$Sent;I)V"⟩
def t_Otf_putPart (pc : Nat) : Option Ent :=
  bif Nat.blt pc 43 then
    (bif Nat.blt pc 21 then
      (bif Nat.blt pc 9 then
        (bif Nat.blt pc 5 then
          (bif Nat.blt pc 1 then
            (bif Nat.beq pc 0 then some (.aload_n 2, 2, 0, 0, 0) else none)
          else
            bif Nat.blt pc 4 then
              (bif Nat.beq pc 1 then some (.getfield 98, 8, 4, 1, 0) else none)
            else
              bif Nat.beq pc 4 then some (.iload_n 3, 3, 0, 0, 0) else none)
        else
          bif Nat.blt pc 6 then
            (bif Nat.beq pc 5 then some (.iaload, 0, 0, 0, 0) else none)
          else
            bif Nat.blt pc 8 then
              (bif Nat.beq pc 6 then some (.istore 4, 4, 0, 0, 0) else none)
            else
              bif Nat.beq pc 8 then some (.aload_n 2, 2, 0, 0, 0) else none)
      else
        bif Nat.blt pc 14 then
          (bif Nat.blt pc 12 then
            (bif Nat.beq pc 9 then some (.getfield 102, 8, 5, 1, 0) else none)
          else
            bif Nat.blt pc 13 then
              (bif Nat.beq pc 12 then some (.iload_n 3, 3, 0, 0, 0) else none)
            else
              bif Nat.beq pc 13 then some (.iaload, 0, 0, 0, 0) else none)
        else
          bif Nat.blt pc 17 then
            (bif Nat.blt pc 16 then
              (bif Nat.beq pc 14 then some (.istore 5, 5, 0, 0, 0) else none)
            else
              bif Nat.beq pc 16 then some (.aload_n 1, 1, 0, 0, 0) else none)
          else
            bif Nat.blt pc 18 then
              (bif Nat.beq pc 17 then some (.iconst 2, 0, 0, 0, 2) else none)
            else
              bif Nat.beq pc 18 then some (.invokevirtual 54, 8, 2, 0, 0) else none)
    else
      bif Nat.blt pc 33 then
        (bif Nat.blt pc 26 then
          (bif Nat.blt pc 22 then
            (bif Nat.beq pc 21 then some (.aload_n 1, 1, 0, 0, 0) else none)
          else
            bif Nat.blt pc 23 then
              (bif Nat.beq pc 22 then some (.iload_n 3, 3, 0, 0, 0) else none)
            else
              bif Nat.beq pc 23 then some (.invokevirtual 57, 10, 2, 0, 0) else none)
        else
          bif Nat.blt pc 29 then
            (bif Nat.blt pc 27 then
              (bif Nat.beq pc 26 then some (.aload_n 1, 1, 0, 0, 0) else none)
            else
              bif Nat.beq pc 27 then some (.iload 4, 4, 0, 0, 0) else none)
          else
            bif Nat.blt pc 32 then
              (bif Nat.beq pc 29 then some (.invokevirtual 57, 10, 2, 0, 0) else none)
            else
              bif Nat.beq pc 32 then some (.aload_n 1, 1, 0, 0, 0) else none)
      else
        bif Nat.blt pc 37 then
          (bif Nat.blt pc 34 then
            (bif Nat.beq pc 33 then some (.iconst 2, 0, 0, 0, 2) else none)
          else
            bif Nat.blt pc 36 then
              (bif Nat.beq pc 34 then some (.iload 5, 5, 0, 0, 0) else none)
            else
              bif Nat.beq pc 36 then some (.imul, 0, 0, 0, 0) else none)
        else
          bif Nat.blt pc 41 then
            (bif Nat.blt pc 38 then
              (bif Nat.beq pc 37 then some (.aload_n 2, 2, 0, 0, 0) else none)
            else
              bif Nat.beq pc 38 then some (.getfield 105, 8, 6, 1, 0) else none)
          else
            bif Nat.blt pc 42 then
              (bif Nat.beq pc 41 then some (.iload_n 3, 3, 0, 0, 0) else none)
            else
              bif Nat.beq pc 42 then some (.baload, 0, 0, 0, 0) else none)
  else
    bif Nat.blt pc 71 then
      (bif Nat.blt pc 57 then
        (bif Nat.blt pc 50 then
          (bif Nat.blt pc 46 then
            (bif Nat.beq pc 43 then some (.ifCond .eq (7), 50, 0, 0, 0) else none)
          else
            bif Nat.blt pc 47 then
              (bif Nat.beq pc 46 then some (.iconst 1, 0, 0, 0, 1) else none)
            else
              bif Nat.beq pc 47 then some (.goto 4, 51, 0, 0, 0) else none)
        else
          bif Nat.blt pc 52 then
            (bif Nat.blt pc 51 then
              (bif Nat.beq pc 50 then some (.iconst 0, 0, 0, 0, 0) else none)
            else
              bif Nat.beq pc 51 then some (.iadd, 0, 0, 0, 0) else none)
          else
            bif Nat.blt pc 55 then
              (bif Nat.beq pc 52 then some (.invokevirtual 57, 10, 2, 0, 0) else none)
            else
              bif Nat.beq pc 55 then some (.iload 4, 4, 0, 0, 0) else none)
      else
        bif Nat.blt pc 63 then
          (bif Nat.blt pc 59 then
            (bif Nat.beq pc 57 then some (.istore 6, 6, 0, 0, 0) else none)
          else
            bif Nat.blt pc 61 then
              (bif Nat.beq pc 59 then some (.iload 6, 6, 0, 0, 0) else none)
            else
              bif Nat.beq pc 61 then some (.iload 4, 4, 0, 0, 0) else none)
        else
          bif Nat.blt pc 66 then
            (bif Nat.blt pc 65 then
              (bif Nat.beq pc 63 then some (.iload 5, 5, 0, 0, 0) else none)
            else
              bif Nat.beq pc 65 then some (.iadd, 0, 0, 0, 0) else none)
          else
            bif Nat.blt pc 69 then
              (bif Nat.beq pc 66 then some (.if_icmp .ge (32), 98, 0, 0, 0) else none)
            else
              bif Nat.beq pc 69 then some (.iload 6, 6, 0, 0, 0) else none)
    else
      bif Nat.blt pc 83 then
        (bif Nat.blt pc 77 then
          (bif Nat.blt pc 73 then
            (bif Nat.beq pc 71 then some (.bipush 64, 0, 0, 0, 64) else none)
          else
            bif Nat.blt pc 76 then
              (bif Nat.beq pc 73 then some (.if_icmp .ge (25), 98, 0, 0, 0) else none)
            else
              bif Nat.beq pc 76 then some (.aload_n 1, 1, 0, 0, 0) else none)
        else
          bif Nat.blt pc 81 then
            (bif Nat.blt pc 78 then
              (bif Nat.beq pc 77 then some (.aload_n 0, 0, 0, 0, 0) else none)
            else
              bif Nat.beq pc 78 then some (.getfield 11, 4, 0, 1, 0) else none)
          else
            bif Nat.blt pc 82 then
              (bif Nat.beq pc 81 then some (.iload_n 3, 3, 0, 0, 0) else none)
            else
              bif Nat.beq pc 82 then some (.aaload, 0, 0, 0, 0) else none)
      else
        bif Nat.blt pc 89 then
          (bif Nat.blt pc 86 then
            (bif Nat.beq pc 83 then some (.getfield 114, 5, 0, 1, 0) else none)
          else
            bif Nat.blt pc 88 then
              (bif Nat.beq pc 86 then some (.iload 6, 6, 0, 0, 0) else none)
            else
              bif Nat.beq pc 88 then some (.iaload, 0, 0, 0, 0) else none)
        else
          bif Nat.blt pc 95 then
            (bif Nat.blt pc 92 then
              (bif Nat.beq pc 89 then some (.invokevirtual 54, 8, 2, 0, 0) else none)
            else
              bif Nat.beq pc 92 then some (.iinc 6 1, 6, 0, 0, 1) else none)
          else
            bif Nat.blt pc 98 then
              (bif Nat.beq pc 95 then some (.goto (-36), 59, 0, 0, 0) else none)
            else
              bif Nat.beq pc 98 then some (.return_, 0, 0, 0, 0) else none
def i_Otf_putPart : Nat → Option Ent := ab_tab 99 t_Otf_putPart
def h_Otf_putPart (pc : Nat) : Nat × List Bool := bif Nat.beq pc 51 then (1, [true, true, false, true, true, true, false]) else bif Nat.beq pc 59 then (1, [true, true, false, true, true, true, true]) else (0, [])
def s_Otf_putPart (pc : Nat) : List (Int32 × Nat) × Nat := ([], 0)
noncomputable def eV_Otf_putPart : Nat → List AV → Mm → Option Mm := ab_ev [(8, c_Row_put), (10, c_Row_putNumber)]
noncomputable def eI_Otf_putPart : Nat → List AV → Mm → Option (Int32 × Mm) := ab_ev []
noncomputable def b_Otf_putPart_0 (f : Nat) (v0 : Nat) (v1 : Nat) (v2 : Nat) (v3 : Int32) (m : Mm) : Option Rs := ab_ex KT none s_Otf_putPart eV_Otf_putPart eI_Otf_putPart i_Otf_putPart h_Otf_putPart f 0 [some (.inr (.inr (17, some v0))), some (.inr (.inr (4, some v1))), some (.inr (.inr (22, some v2))), some (.inl v3), none, none, none] [] m
noncomputable def b_Otf_putPart_51 (f : Nat) (v0 : Nat) (v1 : Nat) (v3 : Int32) (v4 : Int32) (v5 : Int32) (u0 : Nat) (u1 : Int32) (u2 : Int32) (m : Mm) : Option Rs := ab_ex KT none s_Otf_putPart eV_Otf_putPart eI_Otf_putPart i_Otf_putPart h_Otf_putPart f 51 [some (.inr (.inr (17, some v0))), some (.inr (.inr (4, some v1))), none, some (.inl v3), some (.inl v4), some (.inl v5), none] [.inl u2, .inl u1, .inr (.inr (4, some u0))] m
noncomputable def b_Otf_putPart_59 (f : Nat) (v0 : Nat) (v1 : Nat) (v3 : Int32) (v4 : Int32) (v5 : Int32) (v6 : Int32) (m : Mm) : Option Rs := ab_ex KT none s_Otf_putPart eV_Otf_putPart eI_Otf_putPart i_Otf_putPart h_Otf_putPart f 59 [some (.inr (.inr (17, some v0))), some (.inr (.inr (4, some v1))), none, some (.inl v3), some (.inl v4), some (.inl v5), some (.inl v6)] [] m
set_option maxRecDepth 100000 in
set_option maxHeartbeats 4000000 in
theorem b_Otf_putPart_0_eq (f : Nat) (v0 : Nat) (v1 : Nat) (v2 : Nat) (v3 : Int32) (m : Mm) : b_Otf_putPart_0 (f + 1) v0 v1 v2 v3 m =
    (ab_ix v3 4).bind fun i1 =>
    ab_let ((m.1 77 (v2 + 2) i1)) fun x2 =>
    (ab_ix v3 4).bind fun i3 =>
    ab_let ((m.1 78 (v2 + 3) i3)) fun x4 =>
    (r_Row_put v1 (2 : Int32) m).bind fun m5 =>
    (r_Row_putNumber v1 v3 m5).bind fun m6 =>
    (r_Row_putNumber v1 x2 m6).bind fun m7 =>
    (ab_ix v3 4).bind fun i8 =>
    if (m7.1 79 (v2 + 4) i8) = 0 then
      b_Otf_putPart_51 f v0 v1 v3 x2 x4 v1 ((2 : Int32) * x4) (0 : Int32) m7
    else
      b_Otf_putPart_51 f v0 v1 v3 x2 x4 v1 ((2 : Int32) * x4) (1 : Int32) m7 := rfl
set_option maxRecDepth 100000 in
set_option maxHeartbeats 4000000 in
theorem b_Otf_putPart_51_eq (f : Nat) (v0 : Nat) (v1 : Nat) (v3 : Int32) (v4 : Int32) (v5 : Int32) (u0 : Nat) (u1 : Int32) (u2 : Int32) (m : Mm) : b_Otf_putPart_51 (f + 1) v0 v1 v3 v4 v5 u0 u1 u2 m =
    (r_Row_putNumber u0 (u1 + u2) m).bind fun m1 =>
    b_Otf_putPart_59 f v0 v1 v3 v4 v5 v4 m1 := rfl
set_option maxRecDepth 100000 in
set_option maxHeartbeats 4000000 in
theorem b_Otf_putPart_59_eq (f : Nat) (v0 : Nat) (v1 : Nat) (v3 : Int32) (v4 : Int32) (v5 : Int32) (v6 : Int32) (m : Mm) : b_Otf_putPart_59 (f + 1) v0 v1 v3 v4 v5 v6 m =
    if (v4 + v5) ≤ v6 then
      some (.inl (none, m))
    else
      if (64 : Int32) ≤ v6 then
        some (.inl (none, m))
      else
        (ab_ix v3 4).bind fun i1 =>
        (ab_ix v6 64).bind fun i2 =>
        (r_Row_put v1 (m.1 66 (((v0 + 1) + 1 + 3 * i1) + 1) i2) m).bind fun m3 =>
        ab_let (v6 + (1 : Int32)) fun x4 =>
        b_Otf_putPart_59 f v0 v1 v3 v4 v5 x4 m3 := rfl
noncomputable def r_Otf_putPart : Nat → Nat → Nat → Int32 → Mm → Option Mm := ab_seal fun v0 v1 v2 v3 m => ab_rV (b_Otf_putPart_0 50000 v0 v1 v2 v3 m)
theorem r_Otf_putPart_eq (v0 : Nat) (v1 : Nat) (v2 : Nat) (v3 : Int32) (m : Mm) : r_Otf_putPart v0 v1 v2 v3 m = ab_rV (b_Otf_putPart_0 50000 v0 v1 v2 v3 m) := by
  unfold r_Otf_putPart
  rw [ab_seal_eq]
noncomputable def c_Otf_putPart : List AV → Mm → Option Mm := fun av m => match av with
  | [.inr (.inr (kv0, ov0)), .inr (.inr (kv1, ov1)), .inr (.inr (kv2, ov2)), .inl v3] => if kv0 = 17 then (if kv1 = 4 then (if kv2 = 22 then (ov0.bind fun v0 => ov1.bind fun v1 => ov2.bind fun v2 => r_Otf_putPart v0 v1 v2 v3 m) else none) else none) else none
  | _ => none
theorem c_Otf_putPart_inv {av : List AV} {m : Mm} {r : Mm} (h : c_Otf_putPart av m = some r) : ∃ (v0 : Nat) (v1 : Nat) (v2 : Nat) (v3 : Int32), av = [.inr (.inr (17, some v0)), .inr (.inr (4, some v1)), .inr (.inr (22, some v2)), .inl v3] ∧ r_Otf_putPart v0 v1 v2 v3 m = some r := by
  unfold c_Otf_putPart at h
  split at h
  · rename_i kv0 ov0 kv1 ov1 kv2 ov2 v3
    by_cases hkv0 : kv0 = 17
    case neg => rw [if_neg hkv0] at h; cases h
    rw [if_pos hkv0] at h
    subst hkv0
    by_cases hkv1 : kv1 = 4
    case neg => rw [if_neg hkv1] at h; cases h
    rw [if_pos hkv1] at h
    subst hkv1
    by_cases hkv2 : kv2 = 22
    case neg => rw [if_neg hkv2] at h; cases h
    rw [if_pos hkv2] at h
    subst hkv2
    obtain ⟨v0, hev0, h⟩ := Option.bind_eq_some_iff.mp h
    obtain ⟨v1, hev1, h⟩ := Option.bind_eq_some_iff.mp h
    obtain ⟨v2, hev2, h⟩ := Option.bind_eq_some_iff.mp h
    subst hev0
    subst hev1
    subst hev2
    exact ⟨v0, v1, v2, v3, rfl, h⟩
  · cases h
def cs_Otf_putPart : List Nat := [18, 23, 29, 52, 89]
set_option maxRecDepth 100000 in
theorem E_Otf_putPart : ∀ (pc : Nat) (q : Ent), i_Otf_putPart pc = some q → ab_E KT CL ab_gW "StreamTransport$Outflow" "putPart" none prog_6_method_8_code s_Otf_putPart 7 pc q.1 q.2.1 q.2.2.1 q.2.2.2.1 q.2.2.2.2 := fun pc q hq =>
  ab_Eb_ok lc_Otf lj_Otf fl_Otf (fpn_Otf "putPart") nw_Otf na_Otf nq_Otf (ab_tab_all (t := t_Otf_putPart) (chk := fun pc q => ab_Eb none prog_6_method_8_code s_Otf_putPart 7 LC_Otf LJ_Otf FL_Otf FPn_Otf NW_Otf NA_Otf NQ_Otf pc q.1 q.2.1 q.2.2.1 q.2.2.2.1 q.2.2.2.2) (by decide +kernel) hq)
set_option maxRecDepth 100000 in
theorem kp_Otf_putPart {av : List AV} {m : Mm} {r : Mm} (h : c_Otf_putPart av m = some r) : ab_kp m r := by
  obtain ⟨v0, v1, v2, v3, -, h⟩ := c_Otf_putPart_inv h
  rw [r_Otf_putPart_eq] at h
  have hV : ∀ a av m m', eV_Otf_putPart a av m = some m' → ab_kp m m' := ab_ev_all (P := fun _ m r => ab_kp m r) [(8, c_Row_put), (10, c_Row_putNumber)] (List.forall_mem_cons.mpr ⟨fun av m r h => kp_Row_put h, List.forall_mem_cons.mpr ⟨fun av m r h => kp_Row_putNumber h, fun q hq => by cases hq⟩⟩)
  have hI : ∀ a av m q, eI_Otf_putPart a av m = some q → ab_kp m q.2 := ab_ev_all (P := fun _ (m : Mm) (r : Int32 × Mm) => ab_kp m r.2) [] (fun q hq => by cases hq)
  exact ab_kprel (ρ := .inl (none, r)) (ab_tab_isn (t := t_Otf_putPart) (by decide +kernel)) hV hI (ab_rV_inv h)
set_option maxRecDepth 100000 in
theorem cl_Otf_putPart (l : Launch) : ∀ (pc : Nat) (q : Ent), i_Otf_putPart pc = some q → ab_inv q.1 = true → ab_CR l KT CL none ab_gW "StreamTransport$Outflow" prog_6_method_8_code 7 2 45 eV_Otf_putPart eI_Otf_putPart pc q := by
  intro pc q hq hi
  have hm : pc ∈ cs_Otf_putPart := ab_tab_cs (t := t_Otf_putPart) (by decide +kernel) hq hi
  simp only [cs_Otf_putPart, List.mem_cons, List.not_mem_nil, or_false] at hm
  rcases hm with rfl | rfl | rfl | rfl | rfl
  · cases (Option.some.inj hq : ((.invokevirtual 54, 8, 2, 0, 0) : Ent) = q)
    exact ab_crV (C := "StreamTransport$Row") (by decide +kernel) cw_Row_put (ab_gW_in 538 (by decide +kernel) rfl) is_Row_put sl_Row_put (by decide) (fun av m m' h => cm_Row_put l h) (fun av m r h => by cases h) KT_nd
  · cases (Option.some.inj hq : ((.invokevirtual 57, 10, 2, 0, 0) : Ent) = q)
    exact ab_crV (C := "StreamTransport$Row") (by decide +kernel) cw_Row_putNumber (ab_gW_in 539 (by decide +kernel) rfl) is_Row_putNumber sl_Row_putNumber (by decide) (fun av m m' h => cm_Row_putNumber l h) (fun av m r h => by cases h) KT_nd
  · cases (Option.some.inj hq : ((.invokevirtual 57, 10, 2, 0, 0) : Ent) = q)
    exact ab_crV (C := "StreamTransport$Row") (by decide +kernel) cw_Row_putNumber (ab_gW_in 539 (by decide +kernel) rfl) is_Row_putNumber sl_Row_putNumber (by decide) (fun av m m' h => cm_Row_putNumber l h) (fun av m r h => by cases h) KT_nd
  · cases (Option.some.inj hq : ((.invokevirtual 57, 10, 2, 0, 0) : Ent) = q)
    exact ab_crV (C := "StreamTransport$Row") (by decide +kernel) cw_Row_putNumber (ab_gW_in 539 (by decide +kernel) rfl) is_Row_putNumber sl_Row_putNumber (by decide) (fun av m m' h => cm_Row_putNumber l h) (fun av m r h => by cases h) KT_nd
  · cases (Option.some.inj hq : ((.invokevirtual 54, 8, 2, 0, 0) : Ent) = q)
    exact ab_crV (C := "StreamTransport$Row") (by decide +kernel) cw_Row_put (ab_gW_in 538 (by decide +kernel) rfl) is_Row_put sl_Row_put (by decide) (fun av m m' h => cm_Row_put l h) (fun av m r h => by cases h) KT_nd
theorem cw_Otf_putPart : ab_cw y_Otf_putPart prog_6_method_8_code 7 3 none := ⟨ab_gW_in 573 (by decide +kernel) rfl, ab_gW_in 69 (by decide +kernel) rfl, by decide +kernel, by decide +kernel, by decide +kernel⟩
theorem is_Otf_putPart : Cond.instanceMethod y_Otf_putPart ∈ ab_gW := ab_gW_in 572 (by decide +kernel) rfl
theorem sl_Otf_putPart : Cond.selects "StreamTransport$Outflow" y_Otf_putPart y_Otf_putPart ∈ ab_gW := ab_gW_in 8 (by decide +kernel) rfl
set_option maxRecDepth 100000 in
theorem cm_Otf_putPart (l : Launch) {av : List AV} {m : Mm} {r : Mm} (h0 : c_Otf_putPart av m = some r) : ∃ (k q : Nat) (av' : List AV) (ci : Nat) (fs : List (Nat × Nat × Nat × Nat)) (z : vw_C), av = .inr (.inr (k, some q)) :: av' ∧ av'.length = 3 ∧ k ≠ 0 ∧ KT[k]? = some (.inl (ci, fs)) ∧ CL[ci]? = some z ∧ z.1 = "StreamTransport$Outflow" ∧ ab_nos av' ∧ ab_Met l KT CL y_Otf_putPart (Cond.code y_Otf_putPart prog_6_method_8_code 7 none :: ab_gW) 2 45 none av m none r := by
  obtain ⟨v0, v1, v2, v3, hav, h⟩ := c_Otf_putPart_inv h0
  rw [r_Otf_putPart_eq] at h
  have hmo : ab_mo m r := ab_kp_mo (kp_Otf_putPart h0)
  subst hav
  exact ⟨_, _, _, _, _, _, rfl, rfl, by decide, rfl, rfl, rfl, (by intro v hv q e; subst e; simp at hv), ab_met (by decide +kernel) KT_0 KT_nd KT_k3 E_Otf_putPart (cl_Otf_putPart l) hmo (Nat.le_of_ble_eq_true rfl) (ab_rV_inv h) (fun v hv => by cases hv)⟩
/-! StreamTransport$Outflow.putStreams(LStreamTransport$Row;LStreamTransport$Sent;)V -/
def y_Otf_putStreams : MethodName := ⟨"StreamTransport$Outflow", "putStreams", "(LStreamTransport$Row;LStreamTransport$Sent;)V"⟩
def t_Otf_putStreams (pc : Nat) : Option Ent :=
  bif Nat.blt pc 21 then
    (bif Nat.blt pc 8 then
      (bif Nat.blt pc 3 then
        (bif Nat.blt pc 1 then
          (bif Nat.beq pc 0 then some (.iconst 0, 0, 0, 0, 0) else none)
        else
          bif Nat.blt pc 2 then
            (bif Nat.beq pc 1 then some (.istore_n 3, 3, 0, 0, 0) else none)
          else
            bif Nat.beq pc 2 then some (.iload_n 3, 3, 0, 0, 0) else none)
      else
        bif Nat.blt pc 4 then
          (bif Nat.beq pc 3 then some (.iconst 4, 0, 0, 0, 4) else none)
        else
          bif Nat.blt pc 7 then
            (bif Nat.beq pc 4 then some (.if_icmp .ge (41), 45, 0, 0, 0) else none)
          else
            bif Nat.beq pc 7 then some (.aload_n 0, 0, 0, 0, 0) else none)
    else
      bif Nat.blt pc 13 then
        (bif Nat.blt pc 11 then
          (bif Nat.beq pc 8 then some (.getfield 11, 4, 0, 1, 0) else none)
        else
          bif Nat.blt pc 12 then
            (bif Nat.beq pc 11 then some (.iload_n 3, 3, 0, 0, 0) else none)
          else
            bif Nat.beq pc 12 then some (.aaload, 0, 0, 0, 0) else none)
      else
        bif Nat.blt pc 19 then
          (bif Nat.blt pc 16 then
            (bif Nat.beq pc 13 then some (.getfield 66, 5, 6, 0, 0) else none)
          else
            bif Nat.beq pc 16 then some (.ifCond .ne (23), 39, 0, 0, 0) else none)
        else
          bif Nat.blt pc 20 then
            (bif Nat.beq pc 19 then some (.aload_n 0, 0, 0, 0, 0) else none)
          else
            bif Nat.beq pc 20 then some (.aload_n 1, 1, 0, 0, 0) else none)
  else
    bif Nat.blt pc 33 then
      (bif Nat.blt pc 26 then
        (bif Nat.blt pc 24 then
          (bif Nat.beq pc 21 then some (.invokevirtual 70, 6, 1, 1, 0) else none)
        else
          bif Nat.blt pc 25 then
            (bif Nat.beq pc 24 then some (.aload_n 2, 2, 0, 0, 0) else none)
          else
            bif Nat.beq pc 25 then some (.iload_n 3, 3, 0, 0, 0) else none)
      else
        bif Nat.blt pc 29 then
          (bif Nat.beq pc 26 then some (.invokevirtual 74, 45, 4, 1, 0) else none)
        else
          bif Nat.blt pc 32 then
            (bif Nat.beq pc 29 then some (.ifCond .eq (10), 39, 0, 0, 0) else none)
          else
            bif Nat.beq pc 32 then some (.aload_n 0, 0, 0, 0, 0) else none)
    else
      bif Nat.blt pc 36 then
        (bif Nat.blt pc 34 then
          (bif Nat.beq pc 33 then some (.aload_n 1, 1, 0, 0, 0) else none)
        else
          bif Nat.blt pc 35 then
            (bif Nat.beq pc 34 then some (.aload_n 2, 2, 0, 0, 0) else none)
          else
            bif Nat.beq pc 35 then some (.iload_n 3, 3, 0, 0, 0) else none)
      else
        bif Nat.blt pc 42 then
          (bif Nat.blt pc 39 then
            (bif Nat.beq pc 36 then some (.invokevirtual 78, 46, 4, 0, 0) else none)
          else
            bif Nat.beq pc 39 then some (.iinc 3 1, 3, 0, 0, 1) else none)
        else
          bif Nat.blt pc 45 then
            (bif Nat.beq pc 42 then some (.goto (-40), 2, 0, 0, 0) else none)
          else
            bif Nat.beq pc 45 then some (.return_, 0, 0, 0, 0) else none
def i_Otf_putStreams : Nat → Option Ent := ab_tab 46 t_Otf_putStreams
def h_Otf_putStreams (pc : Nat) : Nat × List Bool := bif Nat.beq pc 2 then (1, [true, true, true, true]) else bif Nat.beq pc 39 then (1, [true, true, true, true]) else (0, [])
def s_Otf_putStreams (pc : Nat) : List (Int32 × Nat) × Nat := ([], 0)
noncomputable def eV_Otf_putStreams : Nat → List AV → Mm → Option Mm := ab_ev [(46, c_Otf_putPart)]
noncomputable def eI_Otf_putStreams : Nat → List AV → Mm → Option (Int32 × Mm) := ab_ev [(6, c_Row_roomLeft), (45, c_Otf_choosePart)]
noncomputable def b_Otf_putStreams_0 (f : Nat) (v0 : Nat) (v1 : Nat) (v2 : Nat) (m : Mm) : Option Rs := ab_ex KT none s_Otf_putStreams eV_Otf_putStreams eI_Otf_putStreams i_Otf_putStreams h_Otf_putStreams f 0 [some (.inr (.inr (17, some v0))), some (.inr (.inr (4, some v1))), some (.inr (.inr (22, some v2))), none] [] m
noncomputable def b_Otf_putStreams_2 (f : Nat) (v0 : Nat) (v1 : Nat) (v2 : Nat) (v3 : Int32) (m : Mm) : Option Rs := ab_ex KT none s_Otf_putStreams eV_Otf_putStreams eI_Otf_putStreams i_Otf_putStreams h_Otf_putStreams f 2 [some (.inr (.inr (17, some v0))), some (.inr (.inr (4, some v1))), some (.inr (.inr (22, some v2))), some (.inl v3)] [] m
noncomputable def b_Otf_putStreams_39 (f : Nat) (v0 : Nat) (v1 : Nat) (v2 : Nat) (v3 : Int32) (m : Mm) : Option Rs := ab_ex KT none s_Otf_putStreams eV_Otf_putStreams eI_Otf_putStreams i_Otf_putStreams h_Otf_putStreams f 39 [some (.inr (.inr (17, some v0))), some (.inr (.inr (4, some v1))), some (.inr (.inr (22, some v2))), some (.inl v3)] [] m
set_option maxRecDepth 100000 in
set_option maxHeartbeats 4000000 in
theorem b_Otf_putStreams_0_eq (f : Nat) (v0 : Nat) (v1 : Nat) (v2 : Nat) (m : Mm) : b_Otf_putStreams_0 (f + 1) v0 v1 v2 m =
    b_Otf_putStreams_2 f v0 v1 v2 (0 : Int32) m := rfl
set_option maxRecDepth 100000 in
set_option maxHeartbeats 4000000 in
theorem b_Otf_putStreams_2_eq (f : Nat) (v0 : Nat) (v1 : Nat) (v2 : Nat) (v3 : Int32) (m : Mm) : b_Otf_putStreams_2 (f + 1) v0 v1 v2 v3 m =
    if (4 : Int32) ≤ v3 then
      some (.inl (none, m))
    else
      (ab_ix v3 4).bind fun i1 =>
      if (m.1 63 ((v0 + 1) + 1 + 3 * i1) 0) = 0 then
        (r_Row_roomLeft v1 m).bind fun z2 =>
        (r_Otf_choosePart v0 z2.1 v2 v3 z2.2).bind fun z3 =>
        if z3.1 = 0 then
          b_Otf_putStreams_39 f v0 v1 v2 v3 z3.2
        else
          (r_Otf_putPart v0 v1 v2 v3 z3.2).bind fun m4 =>
          b_Otf_putStreams_39 f v0 v1 v2 v3 m4
      else
        b_Otf_putStreams_39 f v0 v1 v2 v3 m := rfl
set_option maxRecDepth 100000 in
set_option maxHeartbeats 4000000 in
theorem b_Otf_putStreams_39_eq (f : Nat) (v0 : Nat) (v1 : Nat) (v2 : Nat) (v3 : Int32) (m : Mm) : b_Otf_putStreams_39 (f + 1) v0 v1 v2 v3 m =
    ab_let (v3 + (1 : Int32)) fun x1 =>
    b_Otf_putStreams_2 f v0 v1 v2 x1 m := rfl
noncomputable def r_Otf_putStreams : Nat → Nat → Nat → Mm → Option Mm := ab_seal fun v0 v1 v2 m => ab_rV (b_Otf_putStreams_0 50000 v0 v1 v2 m)
theorem r_Otf_putStreams_eq (v0 : Nat) (v1 : Nat) (v2 : Nat) (m : Mm) : r_Otf_putStreams v0 v1 v2 m = ab_rV (b_Otf_putStreams_0 50000 v0 v1 v2 m) := by
  unfold r_Otf_putStreams
  rw [ab_seal_eq]
noncomputable def c_Otf_putStreams : List AV → Mm → Option Mm := fun av m => match av with
  | [.inr (.inr (kv0, ov0)), .inr (.inr (kv1, ov1)), .inr (.inr (kv2, ov2))] => if kv0 = 17 then (if kv1 = 4 then (if kv2 = 22 then (ov0.bind fun v0 => ov1.bind fun v1 => ov2.bind fun v2 => r_Otf_putStreams v0 v1 v2 m) else none) else none) else none
  | _ => none
theorem c_Otf_putStreams_inv {av : List AV} {m : Mm} {r : Mm} (h : c_Otf_putStreams av m = some r) : ∃ (v0 : Nat) (v1 : Nat) (v2 : Nat), av = [.inr (.inr (17, some v0)), .inr (.inr (4, some v1)), .inr (.inr (22, some v2))] ∧ r_Otf_putStreams v0 v1 v2 m = some r := by
  unfold c_Otf_putStreams at h
  split at h
  · rename_i kv0 ov0 kv1 ov1 kv2 ov2
    by_cases hkv0 : kv0 = 17
    case neg => rw [if_neg hkv0] at h; cases h
    rw [if_pos hkv0] at h
    subst hkv0
    by_cases hkv1 : kv1 = 4
    case neg => rw [if_neg hkv1] at h; cases h
    rw [if_pos hkv1] at h
    subst hkv1
    by_cases hkv2 : kv2 = 22
    case neg => rw [if_neg hkv2] at h; cases h
    rw [if_pos hkv2] at h
    subst hkv2
    obtain ⟨v0, hev0, h⟩ := Option.bind_eq_some_iff.mp h
    obtain ⟨v1, hev1, h⟩ := Option.bind_eq_some_iff.mp h
    obtain ⟨v2, hev2, h⟩ := Option.bind_eq_some_iff.mp h
    subst hev0
    subst hev1
    subst hev2
    exact ⟨v0, v1, v2, rfl, h⟩
  · cases h
def cs_Otf_putStreams : List Nat := [21, 26, 36]
set_option maxRecDepth 100000 in
theorem E_Otf_putStreams : ∀ (pc : Nat) (q : Ent), i_Otf_putStreams pc = some q → ab_E KT CL ab_gW "StreamTransport$Outflow" "putStreams" none prog_6_method_6_code s_Otf_putStreams 4 pc q.1 q.2.1 q.2.2.1 q.2.2.2.1 q.2.2.2.2 := fun pc q hq =>
  ab_Eb_ok lc_Otf lj_Otf fl_Otf (fpn_Otf "putStreams") nw_Otf na_Otf nq_Otf (ab_tab_all (t := t_Otf_putStreams) (chk := fun pc q => ab_Eb none prog_6_method_6_code s_Otf_putStreams 4 LC_Otf LJ_Otf FL_Otf FPn_Otf NW_Otf NA_Otf NQ_Otf pc q.1 q.2.1 q.2.2.1 q.2.2.2.1 q.2.2.2.2) (by decide +kernel) hq)
set_option maxRecDepth 100000 in
theorem kp_Otf_putStreams {av : List AV} {m : Mm} {r : Mm} (h : c_Otf_putStreams av m = some r) : ab_kp m r := by
  obtain ⟨v0, v1, v2, -, h⟩ := c_Otf_putStreams_inv h
  rw [r_Otf_putStreams_eq] at h
  have hV : ∀ a av m m', eV_Otf_putStreams a av m = some m' → ab_kp m m' := ab_ev_all (P := fun _ m r => ab_kp m r) [(46, c_Otf_putPart)] (List.forall_mem_cons.mpr ⟨fun av m r h => kp_Otf_putPart h, fun q hq => by cases hq⟩)
  have hI : ∀ a av m q, eI_Otf_putStreams a av m = some q → ab_kp m q.2 := ab_ev_all (P := fun _ (m : Mm) (r : Int32 × Mm) => ab_kp m r.2) [(6, c_Row_roomLeft), (45, c_Otf_choosePart)] (List.forall_mem_cons.mpr ⟨fun av m r h => kp_Row_roomLeft h, List.forall_mem_cons.mpr ⟨fun av m r h => kp_Otf_choosePart h, fun q hq => by cases hq⟩⟩)
  exact ab_kprel (ρ := .inl (none, r)) (ab_tab_isn (t := t_Otf_putStreams) (by decide +kernel)) hV hI (ab_rV_inv h)
set_option maxRecDepth 100000 in
theorem cl_Otf_putStreams (l : Launch) : ∀ (pc : Nat) (q : Ent), i_Otf_putStreams pc = some q → ab_inv q.1 = true → ab_CR l KT CL none ab_gW "StreamTransport$Outflow" prog_6_method_6_code 4 3 75 eV_Otf_putStreams eI_Otf_putStreams pc q := by
  intro pc q hq hi
  have hm : pc ∈ cs_Otf_putStreams := ab_tab_cs (t := t_Otf_putStreams) (by decide +kernel) hq hi
  simp only [cs_Otf_putStreams, List.mem_cons, List.not_mem_nil, or_false] at hm
  rcases hm with rfl | rfl | rfl
  · cases (Option.some.inj hq : ((.invokevirtual 70, 6, 1, 1, 0) : Ent) = q)
    exact ab_crV (C := "StreamTransport$Row") (by decide +kernel) cw_Row_roomLeft (ab_gW_in 544 (by decide +kernel) rfl) is_Row_roomLeft sl_Row_roomLeft (by decide) (fun av m m' h => by cases h) (fun av m r h => cm_Row_roomLeft l h) KT_nd
  · cases (Option.some.inj hq : ((.invokevirtual 74, 45, 4, 1, 0) : Ent) = q)
    exact ab_crV (C := "StreamTransport$Outflow") (by decide +kernel) cw_Otf_choosePart (ab_gW_in 545 (by decide +kernel) rfl) is_Otf_choosePart sl_Otf_choosePart (by decide) (fun av m m' h => by cases h) (fun av m r h => cm_Otf_choosePart l h) KT_nd
  · cases (Option.some.inj hq : ((.invokevirtual 78, 46, 4, 0, 0) : Ent) = q)
    exact ab_crV (C := "StreamTransport$Outflow") (by decide +kernel) cw_Otf_putPart (ab_gW_in 570 (by decide +kernel) rfl) is_Otf_putPart sl_Otf_putPart (by decide) (fun av m m' h => cm_Otf_putPart l h) (fun av m r h => by cases h) KT_nd
theorem cw_Otf_putStreams : ab_cw y_Otf_putStreams prog_6_method_6_code 4 2 none := ⟨ab_gW_in 543 (by decide +kernel) rfl, ab_gW_in 69 (by decide +kernel) rfl, by decide +kernel, by decide +kernel, by decide +kernel⟩
theorem is_Otf_putStreams : Cond.instanceMethod y_Otf_putStreams ∈ ab_gW := ab_gW_in 541 (by decide +kernel) rfl
theorem sl_Otf_putStreams : Cond.selects "StreamTransport$Outflow" y_Otf_putStreams y_Otf_putStreams ∈ ab_gW := ab_gW_in 542 (by decide +kernel) rfl
set_option maxRecDepth 100000 in
theorem cm_Otf_putStreams (l : Launch) {av : List AV} {m : Mm} {r : Mm} (h0 : c_Otf_putStreams av m = some r) : ∃ (k q : Nat) (av' : List AV) (ci : Nat) (fs : List (Nat × Nat × Nat × Nat)) (z : vw_C), av = .inr (.inr (k, some q)) :: av' ∧ av'.length = 2 ∧ k ≠ 0 ∧ KT[k]? = some (.inl (ci, fs)) ∧ CL[ci]? = some z ∧ z.1 = "StreamTransport$Outflow" ∧ ab_nos av' ∧ ab_Met l KT CL y_Otf_putStreams (Cond.code y_Otf_putStreams prog_6_method_6_code 4 none :: ab_gW) 3 75 none av m none r := by
  obtain ⟨v0, v1, v2, hav, h⟩ := c_Otf_putStreams_inv h0
  rw [r_Otf_putStreams_eq] at h
  have hmo : ab_mo m r := ab_kp_mo (kp_Otf_putStreams h0)
  subst hav
  exact ⟨_, _, _, _, _, _, rfl, rfl, by decide, rfl, rfl, rfl, (by intro v hv q e; subst e; simp at hv), ab_met (by decide +kernel) KT_0 KT_nd KT_k3 E_Otf_putStreams (cl_Otf_putStreams l) hmo (Nat.le_of_ble_eq_true rfl) (ab_rV_inv h) (fun v hv => by cases hv)⟩
end
