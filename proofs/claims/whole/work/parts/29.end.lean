section
def FLp_End : List ((Nat × Nat × Nat) × Nat) := [((12, 0, 3), 297), ((21, 0, 4), 299), ((27, 0, 5), 300), ((31, 0, 7), 303), ((35, 0, 9), 307), ((38, 0, 0), 292), ((46, 0, 1), 293), ((53, 0, 2), 295), ((57, 0, 13), 311), ((65, 3, 1), 129), ((106, 6, 0), 144), ((110, 6, 1), 146), ((117, 0, 11), 309), ((144, 0, 6), 301), ((155, 8, 0), 409), ((162, 0, 8), 305), ((172, 8, 1), 410), ((178, 0, 10), 308), ((181, 0, 12), 310), ((203, 7, 1), 105)]
def FL_End : List (Nat × Nat × Nat) := [(12, 0, 3), (21, 0, 4), (27, 0, 5), (31, 0, 7), (35, 0, 9), (38, 0, 0), (46, 0, 1), (53, 0, 2), (57, 0, 13), (65, 3, 1), (106, 6, 0), (110, 6, 1), (117, 0, 11), (144, 0, 6), (155, 8, 0), (162, 0, 8), (172, 8, 1), (178, 0, 10), (181, 0, 12), (203, 7, 1)]
theorem fl_End : ∀ q ∈ FL_End, ab_fld CL ab_gW "StreamTransport$End" q.1 q.2.1 q.2.2 := ab_flb_ok (own := "StreamTransport$End") (l := FLp_End) (by decide +kernel)
def FPnp_End : List ((Nat × Nat × Nat) × Nat) := [((31, 0, 7), 303), ((35, 0, 9), 307), ((57, 0, 13), 311), ((65, 3, 1), 129), ((110, 6, 1), 146), ((117, 0, 11), 309), ((144, 0, 6), 301), ((155, 8, 0), 409), ((162, 0, 8), 305), ((172, 8, 1), 410), ((178, 0, 10), 308), ((181, 0, 12), 310), ((203, 7, 1), 105)]
def FPn_End : List (Nat × Nat × Nat) := [(31, 0, 7), (35, 0, 9), (57, 0, 13), (65, 3, 1), (110, 6, 1), (117, 0, 11), (144, 0, 6), (155, 8, 0), (162, 0, 8), (172, 8, 1), (178, 0, 10), (181, 0, 12), (203, 7, 1)]
theorem fpn_End (nm : String) : ∀ q ∈ FPn_End, ∃ ty, ab_fldp CL ab_gW "StreamTransport$End" nm q.1 q.2.1 q.2.2 ty ∧ ∀ (k t r k' d' : Nat), ab_fs KT q.2.1 q.2.2 k = some (t, r, k', d') → (t = 0 → ty = .int) ∧ (t = 1 → ty = .boolean) ∧ (t = 2 → ((∃ n, ty = .object n) ∨ ∃ t, ty = .array t) ∧ k' ≠ 0) := ab_fpb_ok (own := "StreamTransport$End") (nm := nm) (l := FPnp_End) (ab_fpn_ok (by decide +kernel))
def FPip_End : List ((Nat × Nat × Nat) × Nat) := [((12, 0, 3), 297), ((21, 0, 4), 299), ((27, 0, 5), 300), ((31, 0, 7), 303), ((35, 0, 9), 307), ((38, 0, 0), 292), ((46, 0, 1), 293), ((53, 0, 2), 295), ((57, 0, 13), 311), ((65, 3, 1), 129), ((110, 6, 1), 146), ((117, 0, 11), 309), ((144, 0, 6), 301), ((155, 8, 0), 409), ((162, 0, 8), 305), ((172, 8, 1), 410), ((178, 0, 10), 308), ((181, 0, 12), 310), ((203, 7, 1), 105)]
def FPi_End : List (Nat × Nat × Nat) := [(12, 0, 3), (21, 0, 4), (27, 0, 5), (31, 0, 7), (35, 0, 9), (38, 0, 0), (46, 0, 1), (53, 0, 2), (57, 0, 13), (65, 3, 1), (110, 6, 1), (117, 0, 11), (144, 0, 6), (155, 8, 0), (162, 0, 8), (172, 8, 1), (178, 0, 10), (181, 0, 12), (203, 7, 1)]
theorem fpi_End : ∀ q ∈ FPi_End, ∃ ty, ab_fldp CL ab_gW "StreamTransport$End" "<init>" q.1 q.2.1 q.2.2 ty ∧ ∀ (k t r k' d' : Nat), ab_fs KT q.2.1 q.2.2 k = some (t, r, k', d') → (t = 0 → ty = .int) ∧ (t = 1 → ty = .boolean) ∧ (t = 2 → ((∃ n, ty = .object n) ∨ ∃ t, ty = .array t) ∧ k' ≠ 0) := ab_fpb_ok (own := "StreamTransport$End") (nm := "<init>") (l := FPip_End) (by decide +kernel)
def LCp_End : List ((Nat × Int32) × Nat) := []
def LC_End : List (Nat × Int32) := []
theorem lc_End : ∀ q ∈ LC_End, Cond.constant "StreamTransport$End" q.1 q.2 ∈ ab_gW := ab_lcb (own := "StreamTransport$End") (l := LCp_End) (by decide +kernel)
def LJp_End : List ((Nat × Nat) × Nat) := []
def LJ_End : List (Nat × Nat) := []
theorem lj_End : ∀ q ∈ LJ_End, Cond.constantLong "StreamTransport$End" q.1 (Int64.ofNat q.2) ∈ ab_gW := ab_ljb (own := "StreamTransport$End") (l := LJp_End) (by decide +kernel)
def NWp_End : List ((Nat × Nat) × Nat × Nat × Nat) := [((9, 74), 121, 122, 64), ((18, 75), 136, 137, 65), ((41, 76), 166, 167, 66), ((50, 79), 231, 232, 69), ((25, 82), 164, 402, 80)]
def NW_End : List (Nat × Nat) := [(9, 74), (18, 75), (41, 76), (50, 79), (25, 82)]
theorem nw_End : ∀ q ∈ NW_End, ab_newok KT CL ab_gW "StreamTransport$End" q.1 q.2 := ab_nwb_ok (own := "StreamTransport$End") (l := NWp_End) (by decide +kernel)
def NQp_End : List ((Nat × Nat) × Nat) := [((25, 12), 164)]
def NQ_End : List (Nat × Nat) := [(25, 12)]
theorem nq_End : ∀ q ∈ NQ_End, ab_nqok KT CL ab_gW "StreamTransport$End" q.1 q.2 := ab_nqb_ok (own := "StreamTransport$End") (l := NQp_End) (by decide +kernel)
def NA_End : List (Nat × Nat) := []
theorem na_End : ∀ q ∈ NA_End, (q.1 = 0 → ab_naok KT CL ab_gW .int q.2) ∧ (q.1 = 1 → ab_naok KT CL ab_gW .boolean q.2) ∧ (q.1 = 2 → ab_naok KT CL ab_gW .long q.2) := ab_nab_ok (by decide +kernel)
/-! StreamTransport$End.isOpen()Z -/
def y_End_isOpen : MethodName := ⟨"StreamTransport$End", "isOpen", "()Z"⟩
def t_End_isOpen (pc : Nat) : Option Ent :=
  bif Nat.blt pc 8 then
    (bif Nat.blt pc 4 then
      (bif Nat.blt pc 1 then
        (bif Nat.beq pc 0 then some (.aload_n 0, 0, 0, 0, 0) else none)
      else
        bif Nat.beq pc 1 then some (.getfield 31, 0, 7, 0, 0) else none)
    else
      bif Nat.blt pc 5 then
        (bif Nat.beq pc 4 then some (.iconst (-1), 0, 0, 0, -1) else none)
      else
        bif Nat.beq pc 5 then some (.if_icmp .ne (7), 12, 0, 0, 0) else none)
  else
    bif Nat.blt pc 12 then
      (bif Nat.blt pc 9 then
        (bif Nat.beq pc 8 then some (.iconst 1, 0, 0, 0, 1) else none)
      else
        bif Nat.beq pc 9 then some (.goto 4, 13, 0, 0, 0) else none)
    else
      bif Nat.blt pc 13 then
        (bif Nat.beq pc 12 then some (.iconst 0, 0, 0, 0, 0) else none)
      else
        bif Nat.beq pc 13 then some (.ireturn, 0, 0, 1, 0) else none
def i_End_isOpen : Nat → Option Ent := ab_tab 14 t_End_isOpen
def h_End_isOpen (pc : Nat) : Nat × List Bool := (0, [])
def s_End_isOpen (pc : Nat) : List (Int32 × Nat) × Nat := ([], 0)
noncomputable def eV_End_isOpen : Nat → List AV → Mm → Option Mm := ab_ev []
noncomputable def eI_End_isOpen : Nat → List AV → Mm → Option (Int32 × Mm) := ab_ev []
noncomputable def b_End_isOpen_0 (f : Nat) (v0 : Nat) (m : Mm) : Option Rs := ab_ex KT none s_End_isOpen eV_End_isOpen eI_End_isOpen i_End_isOpen h_End_isOpen f 0 [some (.inr (.inr (7, some v0)))] [] m
set_option maxRecDepth 100000 in
set_option maxHeartbeats 4000000 in
theorem b_End_isOpen_0_eq (f : Nat) (v0 : Nat) (m : Mm) : b_End_isOpen_0 (f + 1) v0 m =
    if (m.1 22 v0 0) = (-1 : Int32) then
      (ab_bo (1 : Int32)).bind fun y2 => some (.inl (some (.inl y2), m))
    else
      (ab_bo (0 : Int32)).bind fun y1 => some (.inl (some (.inl y1), m)) := rfl
noncomputable def r_End_isOpen : Nat → Mm → Option (Int32 × Mm) := ab_seal fun v0 m => ab_rI (b_End_isOpen_0 50000 v0 m)
theorem r_End_isOpen_eq (v0 : Nat) (m : Mm) : r_End_isOpen v0 m = ab_rI (b_End_isOpen_0 50000 v0 m) := by
  unfold r_End_isOpen
  rw [ab_seal_eq]
noncomputable def c_End_isOpen : List AV → Mm → Option (Int32 × Mm) := fun av m => match av with
  | [.inr (.inr (kv0, ov0))] => if kv0 = 7 then (ov0.bind fun v0 => r_End_isOpen v0 m) else none
  | _ => none
theorem c_End_isOpen_inv {av : List AV} {m : Mm} {r : Int32 × Mm} (h : c_End_isOpen av m = some r) : ∃ (v0 : Nat), av = [.inr (.inr (7, some v0))] ∧ r_End_isOpen v0 m = some r := by
  unfold c_End_isOpen at h
  split at h
  · rename_i kv0 ov0
    by_cases hkv0 : kv0 = 7
    case neg => rw [if_neg hkv0] at h; cases h
    rw [if_pos hkv0] at h
    subst hkv0
    obtain ⟨v0, hev0, h⟩ := Option.bind_eq_some_iff.mp h
    subst hev0
    exact ⟨v0, rfl, h⟩
  · cases h
def cs_End_isOpen : List Nat := []
set_option maxRecDepth 100000 in
theorem E_End_isOpen : ∀ (pc : Nat) (q : Ent), i_End_isOpen pc = some q → ab_E KT CL ab_gW "StreamTransport$End" "isOpen" (some .boolean) prog_2_method_2_code s_End_isOpen 1 pc q.1 q.2.1 q.2.2.1 q.2.2.2.1 q.2.2.2.2 := fun pc q hq =>
  ab_Eb_ok lc_End lj_End fl_End (fpn_End "isOpen") nw_End na_End nq_End (ab_tab_all (t := t_End_isOpen) (chk := fun pc q => ab_Eb (some .boolean) prog_2_method_2_code s_End_isOpen 1 LC_End LJ_End FL_End FPn_End NW_End NA_End NQ_End pc q.1 q.2.1 q.2.2.1 q.2.2.2.1 q.2.2.2.2) (by decide +kernel) hq)
set_option maxRecDepth 100000 in
theorem kp_End_isOpen {av : List AV} {m : Mm} {r : Int32 × Mm} (h : c_End_isOpen av m = some r) : ab_kp m r.2 := by
  obtain ⟨v0, -, h⟩ := c_End_isOpen_inv h
  rw [r_End_isOpen_eq] at h
  have hV : ∀ a av m m', eV_End_isOpen a av m = some m' → ab_kp m m' := ab_ev_all (P := fun _ m r => ab_kp m r) [] (fun q hq => by cases hq)
  have hI : ∀ a av m q, eI_End_isOpen a av m = some q → ab_kp m q.2 := ab_ev_all (P := fun _ (m : Mm) (r : Int32 × Mm) => ab_kp m r.2) [] (fun q hq => by cases hq)
  exact ab_kprel (ρ := .inl (some (.inl r.1), r.2)) (ab_tab_isn (t := t_End_isOpen) (by decide +kernel)) hV hI (ab_rI_inv h)
set_option maxRecDepth 100000 in
theorem cl_End_isOpen (l : Launch) : ∀ (pc : Nat) (q : Ent), i_End_isOpen pc = some q → ab_inv q.1 = true → ab_CR l KT CL none ab_gW "StreamTransport$End" prog_2_method_2_code 1 0 0 eV_End_isOpen eI_End_isOpen pc q := by
  intro pc q hq hi
  have hm : pc ∈ cs_End_isOpen := ab_tab_cs (t := t_End_isOpen) (by decide +kernel) hq hi
  cases hm
theorem cw_End_isOpen : ab_cw y_End_isOpen prog_2_method_2_code 1 0 (some .boolean) := ⟨ab_gW_in 376 (by decide +kernel) rfl, ab_gW_in 63 (by decide +kernel) rfl, by decide +kernel, by decide +kernel, by decide +kernel⟩
theorem is_End_isOpen : Cond.instanceMethod y_End_isOpen ∈ ab_gW := ab_gW_in 374 (by decide +kernel) rfl
theorem sl_End_isOpen : Cond.selects "StreamTransport$End" y_End_isOpen y_End_isOpen ∈ ab_gW := ab_gW_in 375 (by decide +kernel) rfl
set_option maxRecDepth 100000 in
theorem cm_End_isOpen (l : Launch) {av : List AV} {m : Mm} {r : Int32 × Mm} (h0 : c_End_isOpen av m = some r) : ∃ (k q : Nat) (av' : List AV) (ci : Nat) (fs : List (Nat × Nat × Nat × Nat)) (z : vw_C), av = .inr (.inr (k, some q)) :: av' ∧ av'.length = 0 ∧ k ≠ 0 ∧ KT[k]? = some (.inl (ci, fs)) ∧ CL[ci]? = some z ∧ z.1 = "StreamTransport$End" ∧ ab_nos av' ∧ ab_Met l KT CL y_End_isOpen (Cond.code y_End_isOpen prog_2_method_2_code 1 (some .boolean) :: ab_gW) 0 0 none av m (some (.inl r.1)) r.2 := by
  obtain ⟨v0, hav, h⟩ := c_End_isOpen_inv h0
  rw [r_End_isOpen_eq] at h
  have hmo : ab_mo m r.2 := ab_kp_mo (kp_End_isOpen h0)
  subst hav
  exact ⟨_, _, _, _, _, _, rfl, rfl, by decide, rfl, rfl, rfl, (by intro v hv q e; subst e; simp at hv), ab_met (by decide +kernel) KT_0 KT_nd KT_k3 E_End_isOpen (cl_End_isOpen l) hmo (Nat.le_of_ble_eq_true rfl) (ab_rI_inv h) (fun v hv => by cases hv; exact ⟨_, rfl⟩)⟩
/-! StreamTransport$End.shut(IZ)V -/
def y_End_shut : MethodName := ⟨"StreamTransport$End", "shut", "(IZ)V"⟩
def t_End_shut (pc : Nat) : Option Ent :=
  bif Nat.blt pc 5 then
    (bif Nat.blt pc 1 then
      (bif Nat.beq pc 0 then some (.aload_n 0, 0, 0, 0, 0) else none)
    else
      bif Nat.blt pc 2 then
        (bif Nat.beq pc 1 then some (.iload_n 1, 1, 0, 0, 0) else none)
      else
        bif Nat.beq pc 2 then some (.putfield 31, 0, 7, 0, 0) else none)
  else
    bif Nat.blt pc 7 then
      (bif Nat.blt pc 6 then
        (bif Nat.beq pc 5 then some (.aload_n 0, 0, 0, 0, 0) else none)
      else
        bif Nat.beq pc 6 then some (.iload_n 2, 2, 0, 0, 0) else none)
    else
      bif Nat.blt pc 10 then
        (bif Nat.beq pc 7 then some (.putfield 57, 0, 13, 0, 0) else none)
      else
        bif Nat.beq pc 10 then some (.return_, 0, 0, 0, 0) else none
def i_End_shut : Nat → Option Ent := ab_tab 11 t_End_shut
def h_End_shut (pc : Nat) : Nat × List Bool := (0, [])
def s_End_shut (pc : Nat) : List (Int32 × Nat) × Nat := ([], 0)
noncomputable def eV_End_shut : Nat → List AV → Mm → Option Mm := ab_ev []
noncomputable def eI_End_shut : Nat → List AV → Mm → Option (Int32 × Mm) := ab_ev []
noncomputable def b_End_shut_0 (f : Nat) (v0 : Nat) (v1 : Int32) (v2 : Int32) (m : Mm) : Option Rs := ab_ex KT none s_End_shut eV_End_shut eI_End_shut i_End_shut h_End_shut f 0 [some (.inr (.inr (7, some v0))), some (.inl v1), some (.inl v2)] [] m
set_option maxRecDepth 100000 in
set_option maxHeartbeats 4000000 in
theorem b_End_shut_0_eq (f : Nat) (v0 : Nat) (v1 : Int32) (v2 : Int32) (m : Mm) : b_End_shut_0 (f + 1) v0 v1 v2 m =
    ab_let (ab_uI m 22 v0 0 v1) fun m1 =>
    (ab_bo v2).bind fun y3 =>
    ab_let (ab_uI m1 28 v0 0 y3) fun m2 =>
    some (.inl (none, m2)) := rfl
noncomputable def r_End_shut : Nat → Int32 → Int32 → Mm → Option Mm := ab_seal fun v0 v1 v2 m => ab_rV (b_End_shut_0 50000 v0 v1 v2 m)
theorem r_End_shut_eq (v0 : Nat) (v1 : Int32) (v2 : Int32) (m : Mm) : r_End_shut v0 v1 v2 m = ab_rV (b_End_shut_0 50000 v0 v1 v2 m) := by
  unfold r_End_shut
  rw [ab_seal_eq]
noncomputable def c_End_shut : List AV → Mm → Option Mm := fun av m => match av with
  | [.inr (.inr (kv0, ov0)), .inl v1, .inl v2] => if kv0 = 7 then (ov0.bind fun v0 => r_End_shut v0 v1 v2 m) else none
  | _ => none
theorem c_End_shut_inv {av : List AV} {m : Mm} {r : Mm} (h : c_End_shut av m = some r) : ∃ (v0 : Nat) (v1 : Int32) (v2 : Int32), av = [.inr (.inr (7, some v0)), .inl v1, .inl v2] ∧ r_End_shut v0 v1 v2 m = some r := by
  unfold c_End_shut at h
  split at h
  · rename_i kv0 ov0 v1 v2
    by_cases hkv0 : kv0 = 7
    case neg => rw [if_neg hkv0] at h; cases h
    rw [if_pos hkv0] at h
    subst hkv0
    obtain ⟨v0, hev0, h⟩ := Option.bind_eq_some_iff.mp h
    subst hev0
    exact ⟨v0, v1, v2, rfl, h⟩
  · cases h
def cs_End_shut : List Nat := []
set_option maxRecDepth 100000 in
theorem E_End_shut : ∀ (pc : Nat) (q : Ent), i_End_shut pc = some q → ab_E KT CL ab_gW "StreamTransport$End" "shut" none prog_2_method_3_code s_End_shut 3 pc q.1 q.2.1 q.2.2.1 q.2.2.2.1 q.2.2.2.2 := fun pc q hq =>
  ab_Eb_ok lc_End lj_End fl_End (fpn_End "shut") nw_End na_End nq_End (ab_tab_all (t := t_End_shut) (chk := fun pc q => ab_Eb none prog_2_method_3_code s_End_shut 3 LC_End LJ_End FL_End FPn_End NW_End NA_End NQ_End pc q.1 q.2.1 q.2.2.1 q.2.2.2.1 q.2.2.2.2) (by decide +kernel) hq)
set_option maxRecDepth 100000 in
theorem kp_End_shut {av : List AV} {m : Mm} {r : Mm} (h : c_End_shut av m = some r) : ab_kp m r := by
  obtain ⟨v0, v1, v2, -, h⟩ := c_End_shut_inv h
  rw [r_End_shut_eq] at h
  have hV : ∀ a av m m', eV_End_shut a av m = some m' → ab_kp m m' := ab_ev_all (P := fun _ m r => ab_kp m r) [] (fun q hq => by cases hq)
  have hI : ∀ a av m q, eI_End_shut a av m = some q → ab_kp m q.2 := ab_ev_all (P := fun _ (m : Mm) (r : Int32 × Mm) => ab_kp m r.2) [] (fun q hq => by cases hq)
  exact ab_kprel (ρ := .inl (none, r)) (ab_tab_isn (t := t_End_shut) (by decide +kernel)) hV hI (ab_rV_inv h)
set_option maxRecDepth 100000 in
theorem cl_End_shut (l : Launch) : ∀ (pc : Nat) (q : Ent), i_End_shut pc = some q → ab_inv q.1 = true → ab_CR l KT CL none ab_gW "StreamTransport$End" prog_2_method_3_code 3 0 0 eV_End_shut eI_End_shut pc q := by
  intro pc q hq hi
  have hm : pc ∈ cs_End_shut := ab_tab_cs (t := t_End_shut) (by decide +kernel) hq hi
  cases hm
theorem cw_End_shut : ab_cw y_End_shut prog_2_method_3_code 3 2 none := ⟨ab_gW_in 392 (by decide +kernel) rfl, ab_gW_in 63 (by decide +kernel) rfl, by decide +kernel, by decide +kernel, by decide +kernel⟩
theorem is_End_shut : Cond.instanceMethod y_End_shut ∈ ab_gW := ab_gW_in 390 (by decide +kernel) rfl
theorem sl_End_shut : Cond.selects "StreamTransport$End" y_End_shut y_End_shut ∈ ab_gW := ab_gW_in 391 (by decide +kernel) rfl
set_option maxRecDepth 100000 in
theorem cm_End_shut (l : Launch) {av : List AV} {m : Mm} {r : Mm} (h0 : c_End_shut av m = some r) : ∃ (k q : Nat) (av' : List AV) (ci : Nat) (fs : List (Nat × Nat × Nat × Nat)) (z : vw_C), av = .inr (.inr (k, some q)) :: av' ∧ av'.length = 2 ∧ k ≠ 0 ∧ KT[k]? = some (.inl (ci, fs)) ∧ CL[ci]? = some z ∧ z.1 = "StreamTransport$End" ∧ ab_nos av' ∧ ab_Met l KT CL y_End_shut (Cond.code y_End_shut prog_2_method_3_code 3 none :: ab_gW) 0 0 none av m none r := by
  obtain ⟨v0, v1, v2, hav, h⟩ := c_End_shut_inv h0
  rw [r_End_shut_eq] at h
  have hmo : ab_mo m r := ab_kp_mo (kp_End_shut h0)
  subst hav
  exact ⟨_, _, _, _, _, _, rfl, rfl, by decide, rfl, rfl, rfl, (by intro v hv q e; subst e; simp at hv), ab_met (by decide +kernel) KT_0 KT_nd KT_k3 E_End_shut (cl_End_shut l) hmo (Nat.le_of_ble_eq_true rfl) (ab_rV_inv h) (fun v hv => by cases hv)⟩
/-! StreamTransport$End.isOnWay(I)Z -/
def y_End_isOnWay : MethodName := ⟨"StreamTransport$End", "isOnWay", "(I)Z"⟩
def t_End_isOnWay (pc : Nat) : Option Ent :=
  bif Nat.blt pc 24 then
    (bif Nat.blt pc 12 then
      (bif Nat.blt pc 5 then
        (bif Nat.blt pc 1 then
          (bif Nat.beq pc 0 then some (.iload_n 1, 1, 0, 0, 0) else none)
        else
          bif Nat.blt pc 4 then
            (bif Nat.beq pc 1 then some (.ifCond .lt (44), 45, 0, 0, 0) else none)
          else
            bif Nat.beq pc 4 then some (.iload_n 1, 1, 0, 0, 0) else none)
      else
        bif Nat.blt pc 6 then
          (bif Nat.beq pc 5 then some (.aload_n 0, 0, 0, 0, 0) else none)
        else
          bif Nat.blt pc 9 then
            (bif Nat.beq pc 6 then some (.getfield 144, 0, 6, 0, 0) else none)
          else
            bif Nat.beq pc 9 then some (.if_icmp .ge (36), 45, 0, 0, 0) else none)
    else
      bif Nat.blt pc 19 then
        (bif Nat.blt pc 13 then
          (bif Nat.beq pc 12 then some (.iload_n 1, 1, 0, 0, 0) else none)
        else
          bif Nat.blt pc 16 then
            (bif Nat.beq pc 13 then some (.sipush 512, 0, 0, 0, 512) else none)
          else
            bif Nat.beq pc 16 then some (.if_icmp .ge (29), 45, 0, 0, 0) else none)
      else
        bif Nat.blt pc 20 then
          (bif Nat.beq pc 19 then some (.aload_n 0, 0, 0, 0, 0) else none)
        else
          bif Nat.blt pc 23 then
            (bif Nat.beq pc 20 then some (.getfield 27, 0, 5, 1, 0) else none)
          else
            bif Nat.beq pc 23 then some (.iload_n 1, 1, 0, 0, 0) else none)
  else
    bif Nat.blt pc 34 then
      (bif Nat.blt pc 29 then
        (bif Nat.blt pc 25 then
          (bif Nat.beq pc 24 then some (.aaload, 0, 0, 0, 0) else none)
        else
          bif Nat.blt pc 28 then
            (bif Nat.beq pc 25 then some (.ifnull 20, 45, 0, 0, 0) else none)
          else
            bif Nat.beq pc 28 then some (.aload_n 0, 0, 0, 0, 0) else none)
      else
        bif Nat.blt pc 32 then
          (bif Nat.beq pc 29 then some (.getfield 27, 0, 5, 1, 0) else none)
        else
          bif Nat.blt pc 33 then
            (bif Nat.beq pc 32 then some (.iload_n 1, 1, 0, 0, 0) else none)
          else
            bif Nat.beq pc 33 then some (.aaload, 0, 0, 0, 0) else none)
    else
      bif Nat.blt pc 41 then
        (bif Nat.blt pc 37 then
          (bif Nat.beq pc 34 then some (.getfield 155, 8, 0, 0, 0) else none)
        else
          bif Nat.blt pc 38 then
            (bif Nat.beq pc 37 then some (.iconst 1, 0, 0, 0, 1) else none)
          else
            bif Nat.beq pc 38 then some (.if_icmp .ne (7), 45, 0, 0, 0) else none)
      else
        bif Nat.blt pc 45 then
          (bif Nat.blt pc 42 then
            (bif Nat.beq pc 41 then some (.iconst 1, 0, 0, 0, 1) else none)
          else
            bif Nat.beq pc 42 then some (.goto 4, 46, 0, 0, 0) else none)
        else
          bif Nat.blt pc 46 then
            (bif Nat.beq pc 45 then some (.iconst 0, 0, 0, 0, 0) else none)
          else
            bif Nat.beq pc 46 then some (.ireturn, 0, 0, 1, 0) else none
def i_End_isOnWay : Nat → Option Ent := ab_tab 47 t_End_isOnWay
def h_End_isOnWay (pc : Nat) : Nat × List Bool := (0, [])
def s_End_isOnWay (pc : Nat) : List (Int32 × Nat) × Nat := ([], 0)
noncomputable def eV_End_isOnWay : Nat → List AV → Mm → Option Mm := ab_ev []
noncomputable def eI_End_isOnWay : Nat → List AV → Mm → Option (Int32 × Mm) := ab_ev []
noncomputable def b_End_isOnWay_0 (f : Nat) (v0 : Nat) (v1 : Int32) (m : Mm) : Option Rs := ab_ex KT none s_End_isOnWay eV_End_isOnWay eI_End_isOnWay i_End_isOnWay h_End_isOnWay f 0 [some (.inr (.inr (7, some v0))), some (.inl v1)] [] m
set_option maxRecDepth 100000 in
set_option maxHeartbeats 4000000 in
theorem b_End_isOnWay_0_eq (f : Nat) (v0 : Nat) (v1 : Int32) (m : Mm) : b_End_isOnWay_0 (f + 1) v0 v1 m =
    if v1 < 0 then
      (ab_bo (0 : Int32)).bind fun y1 => some (.inl (some (.inl y1), m))
    else
      if (m.1 21 v0 0) ≤ v1 then
        (ab_bo (0 : Int32)).bind fun y2 => some (.inl (some (.inl y2), m))
      else
        if (512 : Int32) ≤ v1 then
          (ab_bo (0 : Int32)).bind fun y3 => some (.inl (some (.inl y3), m))
        else
          (ab_ix v1 512).bind fun i4 =>
          Option.elim (m.2.2.1 39 (v0 + 5) i4)
            ((ab_bo (0 : Int32)).bind fun y5 => some (.inl (some (.inl y5), m)))
            (fun _ => (ab_ix v1 512).bind fun i6 =>
            (m.2.2.1 39 (v0 + 5) i6).bind fun q7 =>
              if (m.1 68 q7 0) = (1 : Int32) then
              (ab_bo (1 : Int32)).bind fun y9 => some (.inl (some (.inl y9), m))
            else
              (ab_bo (0 : Int32)).bind fun y8 => some (.inl (some (.inl y8), m))) := rfl
noncomputable def r_End_isOnWay : Nat → Int32 → Mm → Option (Int32 × Mm) := ab_seal fun v0 v1 m => ab_rI (b_End_isOnWay_0 50000 v0 v1 m)
theorem r_End_isOnWay_eq (v0 : Nat) (v1 : Int32) (m : Mm) : r_End_isOnWay v0 v1 m = ab_rI (b_End_isOnWay_0 50000 v0 v1 m) := by
  unfold r_End_isOnWay
  rw [ab_seal_eq]
noncomputable def c_End_isOnWay : List AV → Mm → Option (Int32 × Mm) := fun av m => match av with
  | [.inr (.inr (kv0, ov0)), .inl v1] => if kv0 = 7 then (ov0.bind fun v0 => r_End_isOnWay v0 v1 m) else none
  | _ => none
theorem c_End_isOnWay_inv {av : List AV} {m : Mm} {r : Int32 × Mm} (h : c_End_isOnWay av m = some r) : ∃ (v0 : Nat) (v1 : Int32), av = [.inr (.inr (7, some v0)), .inl v1] ∧ r_End_isOnWay v0 v1 m = some r := by
  unfold c_End_isOnWay at h
  split at h
  · rename_i kv0 ov0 v1
    by_cases hkv0 : kv0 = 7
    case neg => rw [if_neg hkv0] at h; cases h
    rw [if_pos hkv0] at h
    subst hkv0
    obtain ⟨v0, hev0, h⟩ := Option.bind_eq_some_iff.mp h
    subst hev0
    exact ⟨v0, v1, rfl, h⟩
  · cases h
def cs_End_isOnWay : List Nat := []
set_option maxRecDepth 100000 in
theorem E_End_isOnWay : ∀ (pc : Nat) (q : Ent), i_End_isOnWay pc = some q → ab_E KT CL ab_gW "StreamTransport$End" "isOnWay" (some .boolean) prog_2_method_11_code s_End_isOnWay 2 pc q.1 q.2.1 q.2.2.1 q.2.2.2.1 q.2.2.2.2 := fun pc q hq =>
  ab_Eb_ok lc_End lj_End fl_End (fpn_End "isOnWay") nw_End na_End nq_End (ab_tab_all (t := t_End_isOnWay) (chk := fun pc q => ab_Eb (some .boolean) prog_2_method_11_code s_End_isOnWay 2 LC_End LJ_End FL_End FPn_End NW_End NA_End NQ_End pc q.1 q.2.1 q.2.2.1 q.2.2.2.1 q.2.2.2.2) (by decide +kernel) hq)
set_option maxRecDepth 100000 in
theorem kp_End_isOnWay {av : List AV} {m : Mm} {r : Int32 × Mm} (h : c_End_isOnWay av m = some r) : ab_kp m r.2 := by
  obtain ⟨v0, v1, -, h⟩ := c_End_isOnWay_inv h
  rw [r_End_isOnWay_eq] at h
  have hV : ∀ a av m m', eV_End_isOnWay a av m = some m' → ab_kp m m' := ab_ev_all (P := fun _ m r => ab_kp m r) [] (fun q hq => by cases hq)
  have hI : ∀ a av m q, eI_End_isOnWay a av m = some q → ab_kp m q.2 := ab_ev_all (P := fun _ (m : Mm) (r : Int32 × Mm) => ab_kp m r.2) [] (fun q hq => by cases hq)
  exact ab_kprel (ρ := .inl (some (.inl r.1), r.2)) (ab_tab_isn (t := t_End_isOnWay) (by decide +kernel)) hV hI (ab_rI_inv h)
set_option maxRecDepth 100000 in
theorem cl_End_isOnWay (l : Launch) : ∀ (pc : Nat) (q : Ent), i_End_isOnWay pc = some q → ab_inv q.1 = true → ab_CR l KT CL none ab_gW "StreamTransport$End" prog_2_method_11_code 2 0 0 eV_End_isOnWay eI_End_isOnWay pc q := by
  intro pc q hq hi
  have hm : pc ∈ cs_End_isOnWay := ab_tab_cs (t := t_End_isOnWay) (by decide +kernel) hq hi
  cases hm
theorem cw_End_isOnWay : ab_cw y_End_isOnWay prog_2_method_11_code 2 1 (some .boolean) := ⟨ab_gW_in 688 (by decide +kernel) rfl, ab_gW_in 63 (by decide +kernel) rfl, by decide +kernel, by decide +kernel, by decide +kernel⟩
theorem is_End_isOnWay : Cond.instanceMethod y_End_isOnWay ∈ ab_gW := ab_gW_in 687 (by decide +kernel) rfl
theorem sl_End_isOnWay : Cond.selects "StreamTransport$End" y_End_isOnWay y_End_isOnWay ∈ ab_gW := ab_gW_in 22 (by decide +kernel) rfl
set_option maxRecDepth 100000 in
theorem cm_End_isOnWay (l : Launch) {av : List AV} {m : Mm} {r : Int32 × Mm} (h0 : c_End_isOnWay av m = some r) : ∃ (k q : Nat) (av' : List AV) (ci : Nat) (fs : List (Nat × Nat × Nat × Nat)) (z : vw_C), av = .inr (.inr (k, some q)) :: av' ∧ av'.length = 1 ∧ k ≠ 0 ∧ KT[k]? = some (.inl (ci, fs)) ∧ CL[ci]? = some z ∧ z.1 = "StreamTransport$End" ∧ ab_nos av' ∧ ab_Met l KT CL y_End_isOnWay (Cond.code y_End_isOnWay prog_2_method_11_code 2 (some .boolean) :: ab_gW) 0 0 none av m (some (.inl r.1)) r.2 := by
  obtain ⟨v0, v1, hav, h⟩ := c_End_isOnWay_inv h0
  rw [r_End_isOnWay_eq] at h
  have hmo : ab_mo m r.2 := ab_kp_mo (kp_End_isOnWay h0)
  subst hav
  exact ⟨_, _, _, _, _, _, rfl, rfl, by decide, rfl, rfl, rfl, (by intro v hv q e; subst e; simp at hv), ab_met (by decide +kernel) KT_0 KT_nd KT_k3 E_End_isOnWay (cl_End_isOnWay l) hmo (Nat.le_of_ble_eq_true rfl) (ab_rI_inv h) (fun v hv => by cases hv; exact ⟨_, rfl⟩)⟩
/-! StreamTransport$End.isTimed(I)Z -/
def y_End_isTimed : MethodName := ⟨"StreamTransport$End", "isTimed", "(I)Z"⟩
def t_End_isTimed (pc : Nat) : Option Ent :=
  bif Nat.blt pc 13 then
    (bif Nat.blt pc 5 then
      (bif Nat.blt pc 1 then
        (bif Nat.beq pc 0 then some (.aload_n 0, 0, 0, 0, 0) else none)
      else
        bif Nat.blt pc 2 then
          (bif Nat.beq pc 1 then some (.iload_n 1, 1, 0, 0, 0) else none)
        else
          bif Nat.beq pc 2 then some (.invokevirtual 152, 69, 2, 1, 0) else none)
    else
      bif Nat.blt pc 9 then
        (bif Nat.blt pc 8 then
          (bif Nat.beq pc 5 then some (.ifCond .eq (19), 24, 0, 0, 0) else none)
        else
          bif Nat.beq pc 8 then some (.aload_n 0, 0, 0, 0, 0) else none)
      else
        bif Nat.blt pc 12 then
          (bif Nat.beq pc 9 then some (.getfield 27, 0, 5, 1, 0) else none)
        else
          bif Nat.beq pc 12 then some (.iload_n 1, 1, 0, 0, 0) else none)
  else
    bif Nat.blt pc 20 then
      (bif Nat.blt pc 14 then
        (bif Nat.beq pc 13 then some (.aaload, 0, 0, 0, 0) else none)
      else
        bif Nat.blt pc 17 then
          (bif Nat.beq pc 14 then some (.getfield 172, 8, 1, 0, 0) else none)
        else
          bif Nat.beq pc 17 then some (.ifCond .eq (7), 24, 0, 0, 0) else none)
    else
      bif Nat.blt pc 24 then
        (bif Nat.blt pc 21 then
          (bif Nat.beq pc 20 then some (.iconst 1, 0, 0, 0, 1) else none)
        else
          bif Nat.beq pc 21 then some (.goto 4, 25, 0, 0, 0) else none)
      else
        bif Nat.blt pc 25 then
          (bif Nat.beq pc 24 then some (.iconst 0, 0, 0, 0, 0) else none)
        else
          bif Nat.beq pc 25 then some (.ireturn, 0, 0, 1, 0) else none
def i_End_isTimed : Nat → Option Ent := ab_tab 26 t_End_isTimed
def h_End_isTimed (pc : Nat) : Nat × List Bool := (0, [])
def s_End_isTimed (pc : Nat) : List (Int32 × Nat) × Nat := ([], 0)
noncomputable def eV_End_isTimed : Nat → List AV → Mm → Option Mm := ab_ev []
noncomputable def eI_End_isTimed : Nat → List AV → Mm → Option (Int32 × Mm) := ab_ev [(69, c_End_isOnWay)]
noncomputable def b_End_isTimed_0 (f : Nat) (v0 : Nat) (v1 : Int32) (m : Mm) : Option Rs := ab_ex KT none s_End_isTimed eV_End_isTimed eI_End_isTimed i_End_isTimed h_End_isTimed f 0 [some (.inr (.inr (7, some v0))), some (.inl v1)] [] m
set_option maxRecDepth 100000 in
set_option maxHeartbeats 4000000 in
theorem b_End_isTimed_0_eq (f : Nat) (v0 : Nat) (v1 : Int32) (m : Mm) : b_End_isTimed_0 (f + 1) v0 v1 m =
    (r_End_isOnWay v0 v1 m).bind fun z1 =>
    if z1.1 = 0 then
      (ab_bo (0 : Int32)).bind fun y2 => some (.inl (some (.inl y2), z1.2))
    else
      (ab_ix v1 512).bind fun i3 =>
      (z1.2.2.2.1 39 (v0 + 5) i3).bind fun q4 =>
        if (z1.2.1 69 q4 0) = 0 then
        (ab_bo (0 : Int32)).bind fun y5 => some (.inl (some (.inl y5), z1.2))
      else
        (ab_bo (1 : Int32)).bind fun y6 => some (.inl (some (.inl y6), z1.2)) := rfl
noncomputable def r_End_isTimed : Nat → Int32 → Mm → Option (Int32 × Mm) := ab_seal fun v0 v1 m => ab_rI (b_End_isTimed_0 50000 v0 v1 m)
theorem r_End_isTimed_eq (v0 : Nat) (v1 : Int32) (m : Mm) : r_End_isTimed v0 v1 m = ab_rI (b_End_isTimed_0 50000 v0 v1 m) := by
  unfold r_End_isTimed
  rw [ab_seal_eq]
noncomputable def c_End_isTimed : List AV → Mm → Option (Int32 × Mm) := fun av m => match av with
  | [.inr (.inr (kv0, ov0)), .inl v1] => if kv0 = 7 then (ov0.bind fun v0 => r_End_isTimed v0 v1 m) else none
  | _ => none
theorem c_End_isTimed_inv {av : List AV} {m : Mm} {r : Int32 × Mm} (h : c_End_isTimed av m = some r) : ∃ (v0 : Nat) (v1 : Int32), av = [.inr (.inr (7, some v0)), .inl v1] ∧ r_End_isTimed v0 v1 m = some r := by
  unfold c_End_isTimed at h
  split at h
  · rename_i kv0 ov0 v1
    by_cases hkv0 : kv0 = 7
    case neg => rw [if_neg hkv0] at h; cases h
    rw [if_pos hkv0] at h
    subst hkv0
    obtain ⟨v0, hev0, h⟩ := Option.bind_eq_some_iff.mp h
    subst hev0
    exact ⟨v0, v1, rfl, h⟩
  · cases h
def cs_End_isTimed : List Nat := [2]
set_option maxRecDepth 100000 in
theorem E_End_isTimed : ∀ (pc : Nat) (q : Ent), i_End_isTimed pc = some q → ab_E KT CL ab_gW "StreamTransport$End" "isTimed" (some .boolean) prog_2_method_12_code s_End_isTimed 2 pc q.1 q.2.1 q.2.2.1 q.2.2.2.1 q.2.2.2.2 := fun pc q hq =>
  ab_Eb_ok lc_End lj_End fl_End (fpn_End "isTimed") nw_End na_End nq_End (ab_tab_all (t := t_End_isTimed) (chk := fun pc q => ab_Eb (some .boolean) prog_2_method_12_code s_End_isTimed 2 LC_End LJ_End FL_End FPn_End NW_End NA_End NQ_End pc q.1 q.2.1 q.2.2.1 q.2.2.2.1 q.2.2.2.2) (by decide +kernel) hq)
set_option maxRecDepth 100000 in
theorem kp_End_isTimed {av : List AV} {m : Mm} {r : Int32 × Mm} (h : c_End_isTimed av m = some r) : ab_kp m r.2 := by
  obtain ⟨v0, v1, -, h⟩ := c_End_isTimed_inv h
  rw [r_End_isTimed_eq] at h
  have hV : ∀ a av m m', eV_End_isTimed a av m = some m' → ab_kp m m' := ab_ev_all (P := fun _ m r => ab_kp m r) [] (fun q hq => by cases hq)
  have hI : ∀ a av m q, eI_End_isTimed a av m = some q → ab_kp m q.2 := ab_ev_all (P := fun _ (m : Mm) (r : Int32 × Mm) => ab_kp m r.2) [(69, c_End_isOnWay)] (List.forall_mem_cons.mpr ⟨fun av m r h => kp_End_isOnWay h, fun q hq => by cases hq⟩)
  exact ab_kprel (ρ := .inl (some (.inl r.1), r.2)) (ab_tab_isn (t := t_End_isTimed) (by decide +kernel)) hV hI (ab_rI_inv h)
set_option maxRecDepth 100000 in
theorem cl_End_isTimed (l : Launch) : ∀ (pc : Nat) (q : Ent), i_End_isTimed pc = some q → ab_inv q.1 = true → ab_CR l KT CL none ab_gW "StreamTransport$End" prog_2_method_12_code 2 1 21 eV_End_isTimed eI_End_isTimed pc q := by
  intro pc q hq hi
  have hm : pc ∈ cs_End_isTimed := ab_tab_cs (t := t_End_isTimed) (by decide +kernel) hq hi
  simp only [cs_End_isTimed, List.mem_cons, List.not_mem_nil, or_false] at hm
  rcases hm with rfl
  · cases (Option.some.inj hq : ((.invokevirtual 152, 69, 2, 1, 0) : Ent) = q)
    exact ab_crV (C := "StreamTransport$End") (by decide +kernel) cw_End_isOnWay (ab_gW_in 685 (by decide +kernel) rfl) is_End_isOnWay sl_End_isOnWay (by decide) (fun av m m' h => by cases h) (fun av m r h => cm_End_isOnWay l h) KT_nd
theorem cw_End_isTimed : ab_cw y_End_isTimed prog_2_method_12_code 2 1 (some .boolean) := ⟨ab_gW_in 798 (by decide +kernel) rfl, ab_gW_in 63 (by decide +kernel) rfl, by decide +kernel, by decide +kernel, by decide +kernel⟩
theorem is_End_isTimed : Cond.instanceMethod y_End_isTimed ∈ ab_gW := ab_gW_in 797 (by decide +kernel) rfl
theorem sl_End_isTimed : Cond.selects "StreamTransport$End" y_End_isTimed y_End_isTimed ∈ ab_gW := ab_gW_in 28 (by decide +kernel) rfl
set_option maxRecDepth 100000 in
theorem cm_End_isTimed (l : Launch) {av : List AV} {m : Mm} {r : Int32 × Mm} (h0 : c_End_isTimed av m = some r) : ∃ (k q : Nat) (av' : List AV) (ci : Nat) (fs : List (Nat × Nat × Nat × Nat)) (z : vw_C), av = .inr (.inr (k, some q)) :: av' ∧ av'.length = 1 ∧ k ≠ 0 ∧ KT[k]? = some (.inl (ci, fs)) ∧ CL[ci]? = some z ∧ z.1 = "StreamTransport$End" ∧ ab_nos av' ∧ ab_Met l KT CL y_End_isTimed (Cond.code y_End_isTimed prog_2_method_12_code 2 (some .boolean) :: ab_gW) 1 21 none av m (some (.inl r.1)) r.2 := by
  obtain ⟨v0, v1, hav, h⟩ := c_End_isTimed_inv h0
  rw [r_End_isTimed_eq] at h
  have hmo : ab_mo m r.2 := ab_kp_mo (kp_End_isTimed h0)
  subst hav
  exact ⟨_, _, _, _, _, _, rfl, rfl, by decide, rfl, rfl, rfl, (by intro v hv q e; subst e; simp at hv), ab_met (by decide +kernel) KT_0 KT_nd KT_k3 E_End_isTimed (cl_End_isTimed l) hmo (Nat.le_of_ble_eq_true rfl) (ab_rI_inv h) (fun v hv => by cases hv; exact ⟨_, rfl⟩)⟩
/-! StreamTransport$End.losePacket(LStreamTransport$Sent;)V -/
def y_End_losePacket : MethodName := ⟨"StreamTransport$End", "losePacket", "(LStreamTransport$Sent;)V"⟩
def t_End_losePacket (pc : Nat) : Option Ent :=
  bif Nat.blt pc 10 then
    (bif Nat.blt pc 5 then
      (bif Nat.blt pc 1 then
        (bif Nat.beq pc 0 then some (.aload_n 1, 1, 0, 0, 0) else none)
      else
        bif Nat.blt pc 2 then
          (bif Nat.beq pc 1 then some (.iconst 2, 0, 0, 0, 2) else none)
        else
          bif Nat.beq pc 2 then some (.putfield 155, 8, 0, 0, 0) else none)
    else
      bif Nat.blt pc 6 then
        (bif Nat.beq pc 5 then some (.aload_n 0, 0, 0, 0, 0) else none)
      else
        bif Nat.blt pc 9 then
          (bif Nat.beq pc 6 then some (.getfield 53, 0, 2, 1, 0) else none)
        else
          bif Nat.beq pc 9 then some (.aload_n 1, 1, 0, 0, 0) else none)
  else
    bif Nat.blt pc 15 then
      (bif Nat.blt pc 11 then
        (bif Nat.beq pc 10 then some (.iconst 2, 0, 0, 0, 2) else none)
      else
        bif Nat.blt pc 14 then
          (bif Nat.beq pc 11 then some (.invokevirtual 158, 42, 3, 0, 0) else none)
        else
          bif Nat.beq pc 14 then some (.aload_n 0, 0, 0, 0, 0) else none)
    else
      bif Nat.blt pc 19 then
        (bif Nat.blt pc 18 then
          (bif Nat.beq pc 15 then some (.getfield 46, 0, 1, 1, 0) else none)
        else
          bif Nat.beq pc 18 then some (.aload_n 1, 1, 0, 0, 0) else none)
      else
        bif Nat.blt pc 22 then
          (bif Nat.beq pc 19 then some (.invokevirtual 169, 63, 2, 0, 0) else none)
        else
          bif Nat.beq pc 22 then some (.return_, 0, 0, 0, 0) else none
def i_End_losePacket : Nat → Option Ent := ab_tab 23 t_End_losePacket
def h_End_losePacket (pc : Nat) : Nat × List Bool := (0, [])
def s_End_losePacket (pc : Nat) : List (Int32 × Nat) × Nat := ([], 0)
noncomputable def eV_End_losePacket : Nat → List AV → Mm → Option Mm := ab_ev [(42, c_Otf_mark), (63, c_Int_loseLimits)]
noncomputable def eI_End_losePacket : Nat → List AV → Mm → Option (Int32 × Mm) := ab_ev []
noncomputable def b_End_losePacket_0 (f : Nat) (v0 : Nat) (v1 : Nat) (m : Mm) : Option Rs := ab_ex KT none s_End_losePacket eV_End_losePacket eI_End_losePacket i_End_losePacket h_End_losePacket f 0 [some (.inr (.inr (7, some v0))), some (.inr (.inr (22, some v1)))] [] m
set_option maxRecDepth 100000 in
set_option maxHeartbeats 4000000 in
theorem b_End_losePacket_0_eq (f : Nat) (v0 : Nat) (v1 : Nat) (m : Mm) : b_End_losePacket_0 (f + 1) v0 v1 m =
    ab_let (ab_uI m 68 v1 0 (2 : Int32)) fun m1 =>
    (r_Otf_mark (v0 + 16) v1 (2 : Int32) m1).bind fun m2 =>
    (r_Int_loseLimits (v0 + 6) v1 m2).bind fun m3 =>
    some (.inl (none, m3)) := rfl
noncomputable def r_End_losePacket : Nat → Nat → Mm → Option Mm := ab_seal fun v0 v1 m => ab_rV (b_End_losePacket_0 50000 v0 v1 m)
theorem r_End_losePacket_eq (v0 : Nat) (v1 : Nat) (m : Mm) : r_End_losePacket v0 v1 m = ab_rV (b_End_losePacket_0 50000 v0 v1 m) := by
  unfold r_End_losePacket
  rw [ab_seal_eq]
noncomputable def c_End_losePacket : List AV → Mm → Option Mm := fun av m => match av with
  | [.inr (.inr (kv0, ov0)), .inr (.inr (kv1, ov1))] => if kv0 = 7 then (if kv1 = 22 then (ov0.bind fun v0 => ov1.bind fun v1 => r_End_losePacket v0 v1 m) else none) else none
  | _ => none
theorem c_End_losePacket_inv {av : List AV} {m : Mm} {r : Mm} (h : c_End_losePacket av m = some r) : ∃ (v0 : Nat) (v1 : Nat), av = [.inr (.inr (7, some v0)), .inr (.inr (22, some v1))] ∧ r_End_losePacket v0 v1 m = some r := by
  unfold c_End_losePacket at h
  split at h
  · rename_i kv0 ov0 kv1 ov1
    by_cases hkv0 : kv0 = 7
    case neg => rw [if_neg hkv0] at h; cases h
    rw [if_pos hkv0] at h
    subst hkv0
    by_cases hkv1 : kv1 = 22
    case neg => rw [if_neg hkv1] at h; cases h
    rw [if_pos hkv1] at h
    subst hkv1
    obtain ⟨v0, hev0, h⟩ := Option.bind_eq_some_iff.mp h
    obtain ⟨v1, hev1, h⟩ := Option.bind_eq_some_iff.mp h
    subst hev0
    subst hev1
    exact ⟨v0, v1, rfl, h⟩
  · cases h
def cs_End_losePacket : List Nat := [11, 19]
set_option maxRecDepth 100000 in
theorem E_End_losePacket : ∀ (pc : Nat) (q : Ent), i_End_losePacket pc = some q → ab_E KT CL ab_gW "StreamTransport$End" "losePacket" none prog_2_method_10_code s_End_losePacket 2 pc q.1 q.2.1 q.2.2.1 q.2.2.2.1 q.2.2.2.2 := fun pc q hq =>
  ab_Eb_ok lc_End lj_End fl_End (fpn_End "losePacket") nw_End na_End nq_End (ab_tab_all (t := t_End_losePacket) (chk := fun pc q => ab_Eb none prog_2_method_10_code s_End_losePacket 2 LC_End LJ_End FL_End FPn_End NW_End NA_End NQ_End pc q.1 q.2.1 q.2.2.1 q.2.2.2.1 q.2.2.2.2) (by decide +kernel) hq)
set_option maxRecDepth 100000 in
theorem kp_End_losePacket {av : List AV} {m : Mm} {r : Mm} (h : c_End_losePacket av m = some r) : ab_kp m r := by
  obtain ⟨v0, v1, -, h⟩ := c_End_losePacket_inv h
  rw [r_End_losePacket_eq] at h
  have hV : ∀ a av m m', eV_End_losePacket a av m = some m' → ab_kp m m' := ab_ev_all (P := fun _ m r => ab_kp m r) [(42, c_Otf_mark), (63, c_Int_loseLimits)] (List.forall_mem_cons.mpr ⟨fun av m r h => kp_Otf_mark h, List.forall_mem_cons.mpr ⟨fun av m r h => kp_Int_loseLimits h, fun q hq => by cases hq⟩⟩)
  have hI : ∀ a av m q, eI_End_losePacket a av m = some q → ab_kp m q.2 := ab_ev_all (P := fun _ (m : Mm) (r : Int32 × Mm) => ab_kp m r.2) [] (fun q hq => by cases hq)
  exact ab_kprel (ρ := .inl (none, r)) (ab_tab_isn (t := t_End_losePacket) (by decide +kernel)) hV hI (ab_rV_inv h)
set_option maxRecDepth 100000 in
theorem cl_End_losePacket (l : Launch) : ∀ (pc : Nat) (q : Ent), i_End_losePacket pc = some q → ab_inv q.1 = true → ab_CR l KT CL none ab_gW "StreamTransport$End" prog_2_method_10_code 2 2 48 eV_End_losePacket eI_End_losePacket pc q := by
  intro pc q hq hi
  have hm : pc ∈ cs_End_losePacket := ab_tab_cs (t := t_End_losePacket) (by decide +kernel) hq hi
  simp only [cs_End_losePacket, List.mem_cons, List.not_mem_nil, or_false] at hm
  rcases hm with rfl | rfl
  · cases (Option.some.inj hq : ((.invokevirtual 158, 42, 3, 0, 0) : Ent) = q)
    exact ab_crV (C := "StreamTransport$Outflow") (by decide +kernel) cw_Otf_mark (ab_gW_in 590 (by decide +kernel) rfl) is_Otf_mark sl_Otf_mark (by decide) (fun av m m' h => cm_Otf_mark l h) (fun av m r h => by cases h) KT_nd
  · cases (Option.some.inj hq : ((.invokevirtual 169, 63, 2, 0, 0) : Ent) = q)
    exact ab_crV (C := "StreamTransport$Intake") (by decide +kernel) cw_Int_loseLimits (ab_gW_in 697 (by decide +kernel) rfl) is_Int_loseLimits sl_Int_loseLimits (by decide) (fun av m m' h => cm_Int_loseLimits l h) (fun av m r h => by cases h) KT_nd
theorem cw_End_losePacket : ab_cw y_End_losePacket prog_2_method_10_code 2 1 none := ⟨ab_gW_in 696 (by decide +kernel) rfl, ab_gW_in 63 (by decide +kernel) rfl, by decide +kernel, by decide +kernel, by decide +kernel⟩
theorem is_End_losePacket : Cond.instanceMethod y_End_losePacket ∈ ab_gW := ab_gW_in 695 (by decide +kernel) rfl
theorem sl_End_losePacket : Cond.selects "StreamTransport$End" y_End_losePacket y_End_losePacket ∈ ab_gW := ab_gW_in 24 (by decide +kernel) rfl
set_option maxRecDepth 100000 in
theorem cm_End_losePacket (l : Launch) {av : List AV} {m : Mm} {r : Mm} (h0 : c_End_losePacket av m = some r) : ∃ (k q : Nat) (av' : List AV) (ci : Nat) (fs : List (Nat × Nat × Nat × Nat)) (z : vw_C), av = .inr (.inr (k, some q)) :: av' ∧ av'.length = 1 ∧ k ≠ 0 ∧ KT[k]? = some (.inl (ci, fs)) ∧ CL[ci]? = some z ∧ z.1 = "StreamTransport$End" ∧ ab_nos av' ∧ ab_Met l KT CL y_End_losePacket (Cond.code y_End_losePacket prog_2_method_10_code 2 none :: ab_gW) 2 48 none av m none r := by
  obtain ⟨v0, v1, hav, h⟩ := c_End_losePacket_inv h0
  rw [r_End_losePacket_eq] at h
  have hmo : ab_mo m r := ab_kp_mo (kp_End_losePacket h0)
  subst hav
  exact ⟨_, _, _, _, _, _, rfl, rfl, by decide, rfl, rfl, rfl, (by intro v hv q e; subst e; simp at hv), ab_met (by decide +kernel) KT_0 KT_nd KT_k3 E_End_losePacket (cl_End_losePacket l) hmo (Nat.le_of_ble_eq_true rfl) (ab_rV_inv h) (fun v hv => by cases hv)⟩
/-! StreamTransport$End.loseOvertaken()V -/
def y_End_loseOvertaken : MethodName := ⟨"StreamTransport$End", "loseOvertaken", "()V"⟩
def t_End_loseOvertaken (pc : Nat) : Option Ent :=
  bif Nat.blt pc 14 then
    (bif Nat.blt pc 7 then
      (bif Nat.blt pc 2 then
        (bif Nat.blt pc 1 then
          (bif Nat.beq pc 0 then some (.iconst 0, 0, 0, 0, 0) else none)
        else
          bif Nat.beq pc 1 then some (.istore_n 1, 1, 0, 0, 0) else none)
      else
        bif Nat.blt pc 3 then
          (bif Nat.beq pc 2 then some (.iload_n 1, 1, 0, 0, 0) else none)
        else
          bif Nat.blt pc 4 then
            (bif Nat.beq pc 3 then some (.aload_n 0, 0, 0, 0, 0) else none)
          else
            bif Nat.beq pc 4 then some (.getfield 35, 0, 9, 0, 0) else none)
    else
      bif Nat.blt pc 9 then
        (bif Nat.blt pc 8 then
          (bif Nat.beq pc 7 then some (.iconst 3, 0, 0, 0, 3) else none)
        else
          bif Nat.beq pc 8 then some (.isub, 0, 0, 0, 0) else none)
      else
        bif Nat.blt pc 12 then
          (bif Nat.beq pc 9 then some (.if_icmp .gt (27), 36, 0, 0, 0) else none)
        else
          bif Nat.blt pc 13 then
            (bif Nat.beq pc 12 then some (.aload_n 0, 0, 0, 0, 0) else none)
          else
            bif Nat.beq pc 13 then some (.iload_n 1, 1, 0, 0, 0) else none)
  else
    bif Nat.blt pc 25 then
      (bif Nat.blt pc 20 then
        (bif Nat.blt pc 17 then
          (bif Nat.beq pc 14 then some (.invokevirtual 152, 69, 2, 1, 0) else none)
        else
          bif Nat.beq pc 17 then some (.ifCond .eq (13), 30, 0, 0, 0) else none)
      else
        bif Nat.blt pc 21 then
          (bif Nat.beq pc 20 then some (.aload_n 0, 0, 0, 0, 0) else none)
        else
          bif Nat.blt pc 22 then
            (bif Nat.beq pc 21 then some (.aload_n 0, 0, 0, 0, 0) else none)
          else
            bif Nat.beq pc 22 then some (.getfield 27, 0, 5, 1, 0) else none)
    else
      bif Nat.blt pc 30 then
        (bif Nat.blt pc 26 then
          (bif Nat.beq pc 25 then some (.iload_n 1, 1, 0, 0, 0) else none)
        else
          bif Nat.blt pc 27 then
            (bif Nat.beq pc 26 then some (.aaload, 0, 0, 0, 0) else none)
          else
            bif Nat.beq pc 27 then some (.invokevirtual 165, 71, 2, 0, 0) else none)
      else
        bif Nat.blt pc 33 then
          (bif Nat.beq pc 30 then some (.iinc 1 1, 1, 0, 0, 1) else none)
        else
          bif Nat.blt pc 36 then
            (bif Nat.beq pc 33 then some (.goto (-31), 2, 0, 0, 0) else none)
          else
            bif Nat.beq pc 36 then some (.return_, 0, 0, 0, 0) else none
def i_End_loseOvertaken : Nat → Option Ent := ab_tab 37 t_End_loseOvertaken
def h_End_loseOvertaken (pc : Nat) : Nat × List Bool := bif Nat.beq pc 2 then (1, [true, true]) else bif Nat.beq pc 30 then (1, [true, true]) else (0, [])
def s_End_loseOvertaken (pc : Nat) : List (Int32 × Nat) × Nat := ([], 0)
noncomputable def eV_End_loseOvertaken : Nat → List AV → Mm → Option Mm := ab_ev [(71, c_End_losePacket)]
noncomputable def eI_End_loseOvertaken : Nat → List AV → Mm → Option (Int32 × Mm) := ab_ev [(69, c_End_isOnWay)]
noncomputable def b_End_loseOvertaken_0 (f : Nat) (v0 : Nat) (m : Mm) : Option Rs := ab_ex KT none s_End_loseOvertaken eV_End_loseOvertaken eI_End_loseOvertaken i_End_loseOvertaken h_End_loseOvertaken f 0 [some (.inr (.inr (7, some v0))), none] [] m
noncomputable def b_End_loseOvertaken_2 (f : Nat) (v0 : Nat) (v1 : Int32) (m : Mm) : Option Rs := ab_ex KT none s_End_loseOvertaken eV_End_loseOvertaken eI_End_loseOvertaken i_End_loseOvertaken h_End_loseOvertaken f 2 [some (.inr (.inr (7, some v0))), some (.inl v1)] [] m
noncomputable def b_End_loseOvertaken_30 (f : Nat) (v0 : Nat) (v1 : Int32) (m : Mm) : Option Rs := ab_ex KT none s_End_loseOvertaken eV_End_loseOvertaken eI_End_loseOvertaken i_End_loseOvertaken h_End_loseOvertaken f 30 [some (.inr (.inr (7, some v0))), some (.inl v1)] [] m
set_option maxRecDepth 100000 in
set_option maxHeartbeats 4000000 in
theorem b_End_loseOvertaken_0_eq (f : Nat) (v0 : Nat) (m : Mm) : b_End_loseOvertaken_0 (f + 1) v0 m =
    b_End_loseOvertaken_2 f v0 (0 : Int32) m := rfl
set_option maxRecDepth 100000 in
set_option maxHeartbeats 4000000 in
theorem b_End_loseOvertaken_2_eq (f : Nat) (v0 : Nat) (v1 : Int32) (m : Mm) : b_End_loseOvertaken_2 (f + 1) v0 v1 m =
    if ((m.1 24 v0 0) - (3 : Int32)) < v1 then
      some (.inl (none, m))
    else
      (r_End_isOnWay v0 v1 m).bind fun z1 =>
      if z1.1 = 0 then
        b_End_loseOvertaken_30 f v0 v1 z1.2
      else
        (ab_ix v1 512).bind fun i2 =>
        ((z1.2.2.2.1 39 (v0 + 5) i2).bind fun q3 => r_End_losePacket v0 q3 z1.2).bind fun m4 =>
        b_End_loseOvertaken_30 f v0 v1 m4 := rfl
set_option maxRecDepth 100000 in
set_option maxHeartbeats 4000000 in
theorem b_End_loseOvertaken_30_eq (f : Nat) (v0 : Nat) (v1 : Int32) (m : Mm) : b_End_loseOvertaken_30 (f + 1) v0 v1 m =
    ab_let (v1 + (1 : Int32)) fun x1 =>
    b_End_loseOvertaken_2 f v0 x1 m := rfl
noncomputable def r_End_loseOvertaken : Nat → Mm → Option Mm := ab_seal fun v0 m => ab_rV (b_End_loseOvertaken_0 50000 v0 m)
theorem r_End_loseOvertaken_eq (v0 : Nat) (m : Mm) : r_End_loseOvertaken v0 m = ab_rV (b_End_loseOvertaken_0 50000 v0 m) := by
  unfold r_End_loseOvertaken
  rw [ab_seal_eq]
noncomputable def c_End_loseOvertaken : List AV → Mm → Option Mm := fun av m => match av with
  | [.inr (.inr (kv0, ov0))] => if kv0 = 7 then (ov0.bind fun v0 => r_End_loseOvertaken v0 m) else none
  | _ => none
theorem c_End_loseOvertaken_inv {av : List AV} {m : Mm} {r : Mm} (h : c_End_loseOvertaken av m = some r) : ∃ (v0 : Nat), av = [.inr (.inr (7, some v0))] ∧ r_End_loseOvertaken v0 m = some r := by
  unfold c_End_loseOvertaken at h
  split at h
  · rename_i kv0 ov0
    by_cases hkv0 : kv0 = 7
    case neg => rw [if_neg hkv0] at h; cases h
    rw [if_pos hkv0] at h
    subst hkv0
    obtain ⟨v0, hev0, h⟩ := Option.bind_eq_some_iff.mp h
    subst hev0
    exact ⟨v0, rfl, h⟩
  · cases h
def cs_End_loseOvertaken : List Nat := [14, 27]
set_option maxRecDepth 100000 in
theorem E_End_loseOvertaken : ∀ (pc : Nat) (q : Ent), i_End_loseOvertaken pc = some q → ab_E KT CL ab_gW "StreamTransport$End" "loseOvertaken" none prog_2_method_9_code s_End_loseOvertaken 2 pc q.1 q.2.1 q.2.2.1 q.2.2.2.1 q.2.2.2.2 := fun pc q hq =>
  ab_Eb_ok lc_End lj_End fl_End (fpn_End "loseOvertaken") nw_End na_End nq_End (ab_tab_all (t := t_End_loseOvertaken) (chk := fun pc q => ab_Eb none prog_2_method_9_code s_End_loseOvertaken 2 LC_End LJ_End FL_End FPn_End NW_End NA_End NQ_End pc q.1 q.2.1 q.2.2.1 q.2.2.2.1 q.2.2.2.2) (by decide +kernel) hq)
set_option maxRecDepth 100000 in
theorem kp_End_loseOvertaken {av : List AV} {m : Mm} {r : Mm} (h : c_End_loseOvertaken av m = some r) : ab_kp m r := by
  obtain ⟨v0, -, h⟩ := c_End_loseOvertaken_inv h
  rw [r_End_loseOvertaken_eq] at h
  have hV : ∀ a av m m', eV_End_loseOvertaken a av m = some m' → ab_kp m m' := ab_ev_all (P := fun _ m r => ab_kp m r) [(71, c_End_losePacket)] (List.forall_mem_cons.mpr ⟨fun av m r h => kp_End_losePacket h, fun q hq => by cases hq⟩)
  have hI : ∀ a av m q, eI_End_loseOvertaken a av m = some q → ab_kp m q.2 := ab_ev_all (P := fun _ (m : Mm) (r : Int32 × Mm) => ab_kp m r.2) [(69, c_End_isOnWay)] (List.forall_mem_cons.mpr ⟨fun av m r h => kp_End_isOnWay h, fun q hq => by cases hq⟩)
  exact ab_kprel (ρ := .inl (none, r)) (ab_tab_isn (t := t_End_loseOvertaken) (by decide +kernel)) hV hI (ab_rV_inv h)
set_option maxRecDepth 100000 in
theorem cl_End_loseOvertaken (l : Launch) : ∀ (pc : Nat) (q : Ent), i_End_loseOvertaken pc = some q → ab_inv q.1 = true → ab_CR l KT CL none ab_gW "StreamTransport$End" prog_2_method_9_code 2 3 69 eV_End_loseOvertaken eI_End_loseOvertaken pc q := by
  intro pc q hq hi
  have hm : pc ∈ cs_End_loseOvertaken := ab_tab_cs (t := t_End_loseOvertaken) (by decide +kernel) hq hi
  simp only [cs_End_loseOvertaken, List.mem_cons, List.not_mem_nil, or_false] at hm
  rcases hm with rfl | rfl
  · cases (Option.some.inj hq : ((.invokevirtual 152, 69, 2, 1, 0) : Ent) = q)
    exact ab_crV (C := "StreamTransport$End") (by decide +kernel) cw_End_isOnWay (ab_gW_in 685 (by decide +kernel) rfl) is_End_isOnWay sl_End_isOnWay (by decide) (fun av m m' h => by cases h) (fun av m r h => cm_End_isOnWay l h) KT_nd
  · cases (Option.some.inj hq : ((.invokevirtual 165, 71, 2, 0, 0) : Ent) = q)
    exact ab_crV (C := "StreamTransport$End") (by decide +kernel) cw_End_losePacket (ab_gW_in 693 (by decide +kernel) rfl) is_End_losePacket sl_End_losePacket (by decide) (fun av m m' h => cm_End_losePacket l h) (fun av m r h => by cases h) KT_nd
theorem cw_End_loseOvertaken : ab_cw y_End_loseOvertaken prog_2_method_9_code 2 0 none := ⟨ab_gW_in 692 (by decide +kernel) rfl, ab_gW_in 63 (by decide +kernel) rfl, by decide +kernel, by decide +kernel, by decide +kernel⟩
theorem is_End_loseOvertaken : Cond.instanceMethod y_End_loseOvertaken ∈ ab_gW := ab_gW_in 691 (by decide +kernel) rfl
theorem sl_End_loseOvertaken : Cond.selects "StreamTransport$End" y_End_loseOvertaken y_End_loseOvertaken ∈ ab_gW := ab_gW_in 23 (by decide +kernel) rfl
set_option maxRecDepth 100000 in
theorem cm_End_loseOvertaken (l : Launch) {av : List AV} {m : Mm} {r : Mm} (h0 : c_End_loseOvertaken av m = some r) : ∃ (k q : Nat) (av' : List AV) (ci : Nat) (fs : List (Nat × Nat × Nat × Nat)) (z : vw_C), av = .inr (.inr (k, some q)) :: av' ∧ av'.length = 0 ∧ k ≠ 0 ∧ KT[k]? = some (.inl (ci, fs)) ∧ CL[ci]? = some z ∧ z.1 = "StreamTransport$End" ∧ ab_nos av' ∧ ab_Met l KT CL y_End_loseOvertaken (Cond.code y_End_loseOvertaken prog_2_method_9_code 2 none :: ab_gW) 3 69 none av m none r := by
  obtain ⟨v0, hav, h⟩ := c_End_loseOvertaken_inv h0
  rw [r_End_loseOvertaken_eq] at h
  have hmo : ab_mo m r := ab_kp_mo (kp_End_loseOvertaken h0)
  subst hav
  exact ⟨_, _, _, _, _, _, rfl, rfl, by decide, rfl, rfl, rfl, (by intro v hv q e; subst e; simp at hv), ab_met (by decide +kernel) KT_0 KT_nd KT_k3 E_End_loseOvertaken (cl_End_loseOvertaken l) hmo (Nat.le_of_ble_eq_true rfl) (ab_rV_inv h) (fun v hv => by cases hv)⟩
/-! StreamTransport$End.ackRange(II)V -/
def y_End_ackRange : MethodName := ⟨"StreamTransport$End", "ackRange", "(II)V"⟩
def t_End_ackRange (pc : Nat) : Option Ent :=
  bif Nat.blt pc 34 then
    (bif Nat.blt pc 16 then
      (bif Nat.blt pc 7 then
        (bif Nat.blt pc 2 then
          (bif Nat.blt pc 1 then
            (bif Nat.beq pc 0 then some (.iload_n 1, 1, 0, 0, 0) else none)
          else
            bif Nat.beq pc 1 then some (.iconst 0, 0, 0, 0, 0) else none)
        else
          bif Nat.blt pc 5 then
            (bif Nat.beq pc 2 then some (.invokestatic 147, 1, 2, 1, 0) else none)
          else
            bif Nat.blt pc 6 then
              (bif Nat.beq pc 5 then some (.istore_n 3, 3, 0, 0, 0) else none)
            else
              bif Nat.beq pc 6 then some (.iload_n 3, 3, 0, 0, 0) else none)
      else
        bif Nat.blt pc 11 then
          (bif Nat.blt pc 8 then
            (bif Nat.beq pc 7 then some (.iload_n 2, 2, 0, 0, 0) else none)
          else
            bif Nat.beq pc 8 then some (.if_icmp .gt (66), 74, 0, 0, 0) else none)
        else
          bif Nat.blt pc 12 then
            (bif Nat.beq pc 11 then some (.iload_n 3, 3, 0, 0, 0) else none)
          else
            bif Nat.blt pc 13 then
              (bif Nat.beq pc 12 then some (.aload_n 0, 0, 0, 0, 0) else none)
            else
              bif Nat.beq pc 13 then some (.getfield 144, 0, 6, 0, 0) else none)
    else
      bif Nat.blt pc 27 then
        (bif Nat.blt pc 20 then
          (bif Nat.blt pc 19 then
            (bif Nat.beq pc 16 then some (.if_icmp .ge (58), 74, 0, 0, 0) else none)
          else
            bif Nat.beq pc 19 then some (.aload_n 0, 0, 0, 0, 0) else none)
        else
          bif Nat.blt pc 21 then
            (bif Nat.beq pc 20 then some (.iload_n 3, 3, 0, 0, 0) else none)
          else
            bif Nat.blt pc 24 then
              (bif Nat.beq pc 21 then some (.invokevirtual 152, 69, 2, 1, 0) else none)
            else
              bif Nat.beq pc 24 then some (.ifCond .eq (44), 68, 0, 0, 0) else none)
      else
        bif Nat.blt pc 31 then
          (bif Nat.blt pc 28 then
            (bif Nat.beq pc 27 then some (.aload_n 0, 0, 0, 0, 0) else none)
          else
            bif Nat.beq pc 28 then some (.getfield 27, 0, 5, 1, 0) else none)
        else
          bif Nat.blt pc 32 then
            (bif Nat.beq pc 31 then some (.iload_n 3, 3, 0, 0, 0) else none)
          else
            bif Nat.blt pc 33 then
              (bif Nat.beq pc 32 then some (.aaload, 0, 0, 0, 0) else none)
            else
              bif Nat.beq pc 33 then some (.iconst 3, 0, 0, 0, 3) else none)
  else
    bif Nat.blt pc 52 then
      (bif Nat.blt pc 45 then
        (bif Nat.blt pc 38 then
          (bif Nat.blt pc 37 then
            (bif Nat.beq pc 34 then some (.putfield 155, 8, 0, 0, 0) else none)
          else
            bif Nat.beq pc 37 then some (.aload_n 0, 0, 0, 0, 0) else none)
        else
          bif Nat.blt pc 41 then
            (bif Nat.beq pc 38 then some (.getfield 53, 0, 2, 1, 0) else none)
          else
            bif Nat.blt pc 42 then
              (bif Nat.beq pc 41 then some (.aload_n 0, 0, 0, 0, 0) else none)
            else
              bif Nat.beq pc 42 then some (.getfield 27, 0, 5, 1, 0) else none)
      else
        bif Nat.blt pc 47 then
          (bif Nat.blt pc 46 then
            (bif Nat.beq pc 45 then some (.iload_n 3, 3, 0, 0, 0) else none)
          else
            bif Nat.beq pc 46 then some (.aaload, 0, 0, 0, 0) else none)
        else
          bif Nat.blt pc 48 then
            (bif Nat.beq pc 47 then some (.iconst 3, 0, 0, 0, 3) else none)
          else
            bif Nat.blt pc 51 then
              (bif Nat.beq pc 48 then some (.invokevirtual 158, 42, 3, 0, 0) else none)
            else
              bif Nat.beq pc 51 then some (.aload_n 0, 0, 0, 0, 0) else none)
    else
      bif Nat.blt pc 63 then
        (bif Nat.blt pc 56 then
          (bif Nat.blt pc 53 then
            (bif Nat.beq pc 52 then some (.aload_n 0, 0, 0, 0, 0) else none)
          else
            bif Nat.beq pc 53 then some (.getfield 35, 0, 9, 0, 0) else none)
        else
          bif Nat.blt pc 57 then
            (bif Nat.beq pc 56 then some (.iload_n 3, 3, 0, 0, 0) else none)
          else
            bif Nat.blt pc 60 then
              (bif Nat.beq pc 57 then some (.invokestatic 147, 1, 2, 1, 0) else none)
            else
              bif Nat.beq pc 60 then some (.putfield 35, 0, 9, 0, 0) else none)
      else
        bif Nat.blt pc 68 then
          (bif Nat.blt pc 64 then
            (bif Nat.beq pc 63 then some (.aload_n 0, 0, 0, 0, 0) else none)
          else
            bif Nat.blt pc 65 then
              (bif Nat.beq pc 64 then some (.iconst 0, 0, 0, 0, 0) else none)
            else
              bif Nat.beq pc 65 then some (.putfield 162, 0, 8, 0, 0) else none)
        else
          bif Nat.blt pc 71 then
            (bif Nat.beq pc 68 then some (.iinc 3 1, 3, 0, 0, 1) else none)
          else
            bif Nat.blt pc 74 then
              (bif Nat.beq pc 71 then some (.goto (-65), 6, 0, 0, 0) else none)
            else
              bif Nat.beq pc 74 then some (.return_, 0, 0, 0, 0) else none
def i_End_ackRange : Nat → Option Ent := ab_tab 75 t_End_ackRange
def h_End_ackRange (pc : Nat) : Nat × List Bool := bif Nat.beq pc 6 then (1, [true, false, true, true]) else bif Nat.beq pc 68 then (1, [true, false, true, true]) else (0, [])
def s_End_ackRange (pc : Nat) : List (Int32 × Nat) × Nat := ([], 0)
noncomputable def eV_End_ackRange : Nat → List AV → Mm → Option Mm := ab_ev [(42, c_Otf_mark)]
noncomputable def eI_End_ackRange : Nat → List AV → Mm → Option (Int32 × Mm) := ab_ev [(1, c_Math_max), (69, c_End_isOnWay)]
noncomputable def b_End_ackRange_0 (f : Nat) (v0 : Nat) (v1 : Int32) (v2 : Int32) (m : Mm) : Option Rs := ab_ex KT none s_End_ackRange eV_End_ackRange eI_End_ackRange i_End_ackRange h_End_ackRange f 0 [some (.inr (.inr (7, some v0))), some (.inl v1), some (.inl v2), none] [] m
noncomputable def b_End_ackRange_6 (f : Nat) (v0 : Nat) (v2 : Int32) (v3 : Int32) (m : Mm) : Option Rs := ab_ex KT none s_End_ackRange eV_End_ackRange eI_End_ackRange i_End_ackRange h_End_ackRange f 6 [some (.inr (.inr (7, some v0))), none, some (.inl v2), some (.inl v3)] [] m
noncomputable def b_End_ackRange_68 (f : Nat) (v0 : Nat) (v2 : Int32) (v3 : Int32) (m : Mm) : Option Rs := ab_ex KT none s_End_ackRange eV_End_ackRange eI_End_ackRange i_End_ackRange h_End_ackRange f 68 [some (.inr (.inr (7, some v0))), none, some (.inl v2), some (.inl v3)] [] m
set_option maxRecDepth 100000 in
set_option maxHeartbeats 4000000 in
theorem b_End_ackRange_0_eq (f : Nat) (v0 : Nat) (v1 : Int32) (v2 : Int32) (m : Mm) : b_End_ackRange_0 (f + 1) v0 v1 v2 m =
    (r_Math_max v1 (0 : Int32) m).bind fun z1 =>
    b_End_ackRange_6 f v0 v2 z1.1 z1.2 := rfl
set_option maxRecDepth 100000 in
set_option maxHeartbeats 4000000 in
theorem b_End_ackRange_6_eq (f : Nat) (v0 : Nat) (v2 : Int32) (v3 : Int32) (m : Mm) : b_End_ackRange_6 (f + 1) v0 v2 v3 m =
    if v2 < v3 then
      some (.inl (none, m))
    else
      if (m.1 21 v0 0) ≤ v3 then
        some (.inl (none, m))
      else
        (r_End_isOnWay v0 v3 m).bind fun z1 =>
        if z1.1 = 0 then
          b_End_ackRange_68 f v0 v2 v3 z1.2
        else
          (ab_ix v3 512).bind fun i2 =>
          (z1.2.2.2.1 39 (v0 + 5) i2).bind fun q3 =>
            ab_let (ab_uI z1.2 68 q3 0 (3 : Int32)) fun m4 =>
          (ab_ix v3 512).bind fun i5 =>
          ((m4.2.2.1 39 (v0 + 5) i5).bind fun q6 => r_Otf_mark (v0 + 16) q6 (3 : Int32) m4).bind fun m7 =>
          (r_Math_max (m7.1 24 v0 0) v3 m7).bind fun z8 =>
          ab_let (ab_uI z8.2 24 v0 0 z8.1) fun m9 =>
          ab_let (ab_uI m9 23 v0 0 (0 : Int32)) fun m10 =>
          b_End_ackRange_68 f v0 v2 v3 m10 := rfl
set_option maxRecDepth 100000 in
set_option maxHeartbeats 4000000 in
theorem b_End_ackRange_68_eq (f : Nat) (v0 : Nat) (v2 : Int32) (v3 : Int32) (m : Mm) : b_End_ackRange_68 (f + 1) v0 v2 v3 m =
    ab_let (v3 + (1 : Int32)) fun x1 =>
    b_End_ackRange_6 f v0 v2 x1 m := rfl
noncomputable def r_End_ackRange : Nat → Int32 → Int32 → Mm → Option Mm := ab_seal fun v0 v1 v2 m => ab_rV (b_End_ackRange_0 50000 v0 v1 v2 m)
theorem r_End_ackRange_eq (v0 : Nat) (v1 : Int32) (v2 : Int32) (m : Mm) : r_End_ackRange v0 v1 v2 m = ab_rV (b_End_ackRange_0 50000 v0 v1 v2 m) := by
  unfold r_End_ackRange
  rw [ab_seal_eq]
noncomputable def c_End_ackRange : List AV → Mm → Option Mm := fun av m => match av with
  | [.inr (.inr (kv0, ov0)), .inl v1, .inl v2] => if kv0 = 7 then (ov0.bind fun v0 => r_End_ackRange v0 v1 v2 m) else none
  | _ => none
theorem c_End_ackRange_inv {av : List AV} {m : Mm} {r : Mm} (h : c_End_ackRange av m = some r) : ∃ (v0 : Nat) (v1 : Int32) (v2 : Int32), av = [.inr (.inr (7, some v0)), .inl v1, .inl v2] ∧ r_End_ackRange v0 v1 v2 m = some r := by
  unfold c_End_ackRange at h
  split at h
  · rename_i kv0 ov0 v1 v2
    by_cases hkv0 : kv0 = 7
    case neg => rw [if_neg hkv0] at h; cases h
    rw [if_pos hkv0] at h
    subst hkv0
    obtain ⟨v0, hev0, h⟩ := Option.bind_eq_some_iff.mp h
    subst hev0
    exact ⟨v0, v1, v2, rfl, h⟩
  · cases h
def cs_End_ackRange : List Nat := [2, 21, 48, 57]
set_option maxRecDepth 100000 in
theorem E_End_ackRange : ∀ (pc : Nat) (q : Ent), i_End_ackRange pc = some q → ab_E KT CL ab_gW "StreamTransport$End" "ackRange" none prog_2_method_8_code s_End_ackRange 4 pc q.1 q.2.1 q.2.2.1 q.2.2.2.1 q.2.2.2.2 := fun pc q hq =>
  ab_Eb_ok lc_End lj_End fl_End (fpn_End "ackRange") nw_End na_End nq_End (ab_tab_all (t := t_End_ackRange) (chk := fun pc q => ab_Eb none prog_2_method_8_code s_End_ackRange 4 LC_End LJ_End FL_End FPn_End NW_End NA_End NQ_End pc q.1 q.2.1 q.2.2.1 q.2.2.2.1 q.2.2.2.2) (by decide +kernel) hq)
set_option maxRecDepth 100000 in
theorem kp_End_ackRange {av : List AV} {m : Mm} {r : Mm} (h : c_End_ackRange av m = some r) : ab_kp m r := by
  obtain ⟨v0, v1, v2, -, h⟩ := c_End_ackRange_inv h
  rw [r_End_ackRange_eq] at h
  have hV : ∀ a av m m', eV_End_ackRange a av m = some m' → ab_kp m m' := ab_ev_all (P := fun _ m r => ab_kp m r) [(42, c_Otf_mark)] (List.forall_mem_cons.mpr ⟨fun av m r h => kp_Otf_mark h, fun q hq => by cases hq⟩)
  have hI : ∀ a av m q, eI_End_ackRange a av m = some q → ab_kp m q.2 := ab_ev_all (P := fun _ (m : Mm) (r : Int32 × Mm) => ab_kp m r.2) [(1, c_Math_max), (69, c_End_isOnWay)] (List.forall_mem_cons.mpr ⟨fun av m r h => kp_Math_max h, List.forall_mem_cons.mpr ⟨fun av m r h => kp_End_isOnWay h, fun q hq => by cases hq⟩⟩)
  exact ab_kprel (ρ := .inl (none, r)) (ab_tab_isn (t := t_End_ackRange) (by decide +kernel)) hV hI (ab_rV_inv h)
set_option maxRecDepth 100000 in
theorem cl_End_ackRange (l : Launch) : ∀ (pc : Nat) (q : Ent), i_End_ackRange pc = some q → ab_inv q.1 = true → ab_CR l KT CL none ab_gW "StreamTransport$End" prog_2_method_8_code 4 2 48 eV_End_ackRange eI_End_ackRange pc q := by
  intro pc q hq hi
  have hm : pc ∈ cs_End_ackRange := ab_tab_cs (t := t_End_ackRange) (by decide +kernel) hq hi
  simp only [cs_End_ackRange, List.mem_cons, List.not_mem_nil, or_false] at hm
  rcases hm with rfl | rfl | rfl | rfl
  · cases (Option.some.inj hq : ((.invokestatic 147, 1, 2, 1, 0) : Ent) = q)
    exact ab_crS (by decide +kernel) cw_Math_max (ab_gW_in 684 (by decide +kernel) rfl) st_Math_max (by decide) (fun av m m' h => by cases h) (fun av m r h => cm_Math_max l h) KT_nd
  · cases (Option.some.inj hq : ((.invokevirtual 152, 69, 2, 1, 0) : Ent) = q)
    exact ab_crV (C := "StreamTransport$End") (by decide +kernel) cw_End_isOnWay (ab_gW_in 685 (by decide +kernel) rfl) is_End_isOnWay sl_End_isOnWay (by decide) (fun av m m' h => by cases h) (fun av m r h => cm_End_isOnWay l h) KT_nd
  · cases (Option.some.inj hq : ((.invokevirtual 158, 42, 3, 0, 0) : Ent) = q)
    exact ab_crV (C := "StreamTransport$Outflow") (by decide +kernel) cw_Otf_mark (ab_gW_in 590 (by decide +kernel) rfl) is_Otf_mark sl_Otf_mark (by decide) (fun av m m' h => cm_Otf_mark l h) (fun av m r h => by cases h) KT_nd
  · cases (Option.some.inj hq : ((.invokestatic 147, 1, 2, 1, 0) : Ent) = q)
    exact ab_crS (by decide +kernel) cw_Math_max (ab_gW_in 684 (by decide +kernel) rfl) st_Math_max (by decide) (fun av m m' h => by cases h) (fun av m r h => cm_Math_max l h) KT_nd
theorem cw_End_ackRange : ab_cw y_End_ackRange prog_2_method_8_code 4 2 none := ⟨ab_gW_in 683 (by decide +kernel) rfl, ab_gW_in 63 (by decide +kernel) rfl, by decide +kernel, by decide +kernel, by decide +kernel⟩
theorem is_End_ackRange : Cond.instanceMethod y_End_ackRange ∈ ab_gW := ab_gW_in 682 (by decide +kernel) rfl
theorem sl_End_ackRange : Cond.selects "StreamTransport$End" y_End_ackRange y_End_ackRange ∈ ab_gW := ab_gW_in 21 (by decide +kernel) rfl
set_option maxRecDepth 100000 in
theorem cm_End_ackRange (l : Launch) {av : List AV} {m : Mm} {r : Mm} (h0 : c_End_ackRange av m = some r) : ∃ (k q : Nat) (av' : List AV) (ci : Nat) (fs : List (Nat × Nat × Nat × Nat)) (z : vw_C), av = .inr (.inr (k, some q)) :: av' ∧ av'.length = 2 ∧ k ≠ 0 ∧ KT[k]? = some (.inl (ci, fs)) ∧ CL[ci]? = some z ∧ z.1 = "StreamTransport$End" ∧ ab_nos av' ∧ ab_Met l KT CL y_End_ackRange (Cond.code y_End_ackRange prog_2_method_8_code 4 none :: ab_gW) 2 48 none av m none r := by
  obtain ⟨v0, v1, v2, hav, h⟩ := c_End_ackRange_inv h0
  rw [r_End_ackRange_eq] at h
  have hmo : ab_mo m r := ab_kp_mo (kp_End_ackRange h0)
  subst hav
  exact ⟨_, _, _, _, _, _, rfl, rfl, by decide, rfl, rfl, rfl, (by intro v hv q e; subst e; simp at hv), ab_met (by decide +kernel) KT_0 KT_nd KT_k3 E_End_ackRange (cl_End_ackRange l) hmo (Nat.le_of_ble_eq_true rfl) (ab_rV_inv h) (fun v hv => by cases hv)⟩
/-! StreamTransport$End.isAckRight([I)Z -/
def y_End_isAckRight : MethodName := ⟨"StreamTransport$End", "isAckRight", "([I)Z"⟩
def t_End_isAckRight (pc : Nat) : Option Ent :=
  bif Nat.blt pc 33 then
    (bif Nat.blt pc 13 then
      (bif Nat.blt pc 6 then
        (bif Nat.blt pc 3 then
          (bif Nat.blt pc 1 then
            (bif Nat.beq pc 0 then some (.aload_n 1, 1, 0, 0, 0) else none)
          else
            bif Nat.blt pc 2 then
              (bif Nat.beq pc 1 then some (.iconst 0, 0, 0, 0, 0) else none)
            else
              bif Nat.beq pc 2 then some (.iaload, 0, 0, 0, 0) else none)
        else
          bif Nat.blt pc 4 then
            (bif Nat.beq pc 3 then some (.aload_n 1, 1, 0, 0, 0) else none)
          else
            bif Nat.blt pc 5 then
              (bif Nat.beq pc 4 then some (.iconst 1, 0, 0, 0, 1) else none)
            else
              bif Nat.beq pc 5 then some (.iaload, 0, 0, 0, 0) else none)
      else
        bif Nat.blt pc 9 then
          (bif Nat.blt pc 7 then
            (bif Nat.beq pc 6 then some (.isub, 0, 0, 0, 0) else none)
          else
            bif Nat.blt pc 8 then
              (bif Nat.beq pc 7 then some (.istore_n 2, 2, 0, 0, 0) else none)
            else
              bif Nat.beq pc 8 then some (.iconst 0, 0, 0, 0, 0) else none)
        else
          bif Nat.blt pc 11 then
            (bif Nat.blt pc 10 then
              (bif Nat.beq pc 9 then some (.istore_n 3, 3, 0, 0, 0) else none)
            else
              bif Nat.beq pc 10 then some (.iload_n 3, 3, 0, 0, 0) else none)
          else
            bif Nat.blt pc 12 then
              (bif Nat.beq pc 11 then some (.aload_n 1, 1, 0, 0, 0) else none)
            else
              bif Nat.beq pc 12 then some (.iconst 2, 0, 0, 0, 2) else none)
    else
      bif Nat.blt pc 26 then
        (bif Nat.blt pc 18 then
          (bif Nat.blt pc 14 then
            (bif Nat.beq pc 13 then some (.iaload, 0, 0, 0, 0) else none)
          else
            bif Nat.blt pc 17 then
              (bif Nat.beq pc 14 then some (.if_icmp .ge (38), 52, 0, 0, 0) else none)
            else
              bif Nat.beq pc 17 then some (.iload_n 3, 3, 0, 0, 0) else none)
        else
          bif Nat.blt pc 22 then
            (bif Nat.blt pc 19 then
              (bif Nat.beq pc 18 then some (.iconst 2, 0, 0, 0, 2) else none)
            else
              bif Nat.beq pc 19 then some (.if_icmp .ge (33), 52, 0, 0, 0) else none)
          else
            bif Nat.blt pc 23 then
              (bif Nat.beq pc 22 then some (.iload_n 2, 2, 0, 0, 0) else none)
            else
              bif Nat.beq pc 23 then some (.ifCond .lt (29), 52, 0, 0, 0) else none)
      else
        bif Nat.blt pc 29 then
          (bif Nat.blt pc 27 then
            (bif Nat.beq pc 26 then some (.iload_n 2, 2, 0, 0, 0) else none)
          else
            bif Nat.blt pc 28 then
              (bif Nat.beq pc 27 then some (.aload_n 1, 1, 0, 0, 0) else none)
            else
              bif Nat.beq pc 28 then some (.iconst 3, 0, 0, 0, 3) else none)
        else
          bif Nat.blt pc 31 then
            (bif Nat.blt pc 30 then
              (bif Nat.beq pc 29 then some (.iconst 2, 0, 0, 0, 2) else none)
            else
              bif Nat.beq pc 30 then some (.iload_n 3, 3, 0, 0, 0) else none)
          else
            bif Nat.blt pc 32 then
              (bif Nat.beq pc 31 then some (.imul, 0, 0, 0, 0) else none)
            else
              bif Nat.beq pc 32 then some (.iadd, 0, 0, 0, 0) else none)
  else
    bif Nat.blt pc 46 then
      (bif Nat.blt pc 39 then
        (bif Nat.blt pc 36 then
          (bif Nat.blt pc 34 then
            (bif Nat.beq pc 33 then some (.iaload, 0, 0, 0, 0) else none)
          else
            bif Nat.blt pc 35 then
              (bif Nat.beq pc 34 then some (.isub, 0, 0, 0, 0) else none)
            else
              bif Nat.beq pc 35 then some (.iconst 2, 0, 0, 0, 2) else none)
        else
          bif Nat.blt pc 37 then
            (bif Nat.beq pc 36 then some (.isub, 0, 0, 0, 0) else none)
          else
            bif Nat.blt pc 38 then
              (bif Nat.beq pc 37 then some (.aload_n 1, 1, 0, 0, 0) else none)
            else
              bif Nat.beq pc 38 then some (.iconst 4, 0, 0, 0, 4) else none)
      else
        bif Nat.blt pc 42 then
          (bif Nat.blt pc 40 then
            (bif Nat.beq pc 39 then some (.iconst 2, 0, 0, 0, 2) else none)
          else
            bif Nat.blt pc 41 then
              (bif Nat.beq pc 40 then some (.iload_n 3, 3, 0, 0, 0) else none)
            else
              bif Nat.beq pc 41 then some (.imul, 0, 0, 0, 0) else none)
        else
          bif Nat.blt pc 44 then
            (bif Nat.blt pc 43 then
              (bif Nat.beq pc 42 then some (.iadd, 0, 0, 0, 0) else none)
            else
              bif Nat.beq pc 43 then some (.iaload, 0, 0, 0, 0) else none)
          else
            bif Nat.blt pc 45 then
              (bif Nat.beq pc 44 then some (.isub, 0, 0, 0, 0) else none)
            else
              bif Nat.beq pc 45 then some (.istore_n 2, 2, 0, 0, 0) else none)
    else
      bif Nat.blt pc 59 then
        (bif Nat.blt pc 53 then
          (bif Nat.blt pc 49 then
            (bif Nat.beq pc 46 then some (.iinc 3 1, 3, 0, 0, 1) else none)
          else
            bif Nat.blt pc 52 then
              (bif Nat.beq pc 49 then some (.goto (-39), 10, 0, 0, 0) else none)
            else
              bif Nat.beq pc 52 then some (.aload_n 1, 1, 0, 0, 0) else none)
        else
          bif Nat.blt pc 55 then
            (bif Nat.blt pc 54 then
              (bif Nat.beq pc 53 then some (.iconst 0, 0, 0, 0, 0) else none)
            else
              bif Nat.beq pc 54 then some (.iaload, 0, 0, 0, 0) else none)
          else
            bif Nat.blt pc 56 then
              (bif Nat.beq pc 55 then some (.aload_n 0, 0, 0, 0, 0) else none)
            else
              bif Nat.beq pc 56 then some (.getfield 144, 0, 6, 0, 0) else none)
      else
        bif Nat.blt pc 66 then
          (bif Nat.blt pc 62 then
            (bif Nat.beq pc 59 then some (.if_icmp .ge (11), 70, 0, 0, 0) else none)
          else
            bif Nat.blt pc 63 then
              (bif Nat.beq pc 62 then some (.iload_n 2, 2, 0, 0, 0) else none)
            else
              bif Nat.beq pc 63 then some (.ifCond .lt (7), 70, 0, 0, 0) else none)
        else
          bif Nat.blt pc 70 then
            (bif Nat.blt pc 67 then
              (bif Nat.beq pc 66 then some (.iconst 1, 0, 0, 0, 1) else none)
            else
              bif Nat.beq pc 67 then some (.goto 4, 71, 0, 0, 0) else none)
          else
            bif Nat.blt pc 71 then
              (bif Nat.beq pc 70 then some (.iconst 0, 0, 0, 0, 0) else none)
            else
              bif Nat.beq pc 71 then some (.ireturn, 0, 0, 1, 0) else none
def i_End_isAckRight : Nat → Option Ent := ab_tab 72 t_End_isAckRight
def h_End_isAckRight (pc : Nat) : Nat × List Bool := bif Nat.beq pc 10 then (1, [true, true, true, true]) else bif Nat.beq pc 52 then (1, [true, true, true, false]) else (0, [])
def s_End_isAckRight (pc : Nat) : List (Int32 × Nat) × Nat := ([], 0)
noncomputable def eV_End_isAckRight : Nat → List AV → Mm → Option Mm := ab_ev []
noncomputable def eI_End_isAckRight : Nat → List AV → Mm → Option (Int32 × Mm) := ab_ev []
noncomputable def b_End_isAckRight_0 (f : Nat) (v0 : Nat) (v1 : Nat) (m : Mm) : Option Rs := ab_ex KT none s_End_isAckRight eV_End_isAckRight eI_End_isAckRight i_End_isAckRight h_End_isAckRight f 0 [some (.inr (.inr (7, some v0))), some (.inr (.inr (11, some v1))), none, none] [] m
noncomputable def b_End_isAckRight_10 (f : Nat) (v0 : Nat) (v1 : Nat) (v2 : Int32) (v3 : Int32) (m : Mm) : Option Rs := ab_ex KT none s_End_isAckRight eV_End_isAckRight eI_End_isAckRight i_End_isAckRight h_End_isAckRight f 10 [some (.inr (.inr (7, some v0))), some (.inr (.inr (11, some v1))), some (.inl v2), some (.inl v3)] [] m
noncomputable def b_End_isAckRight_52 (f : Nat) (v0 : Nat) (v1 : Nat) (v2 : Int32) (m : Mm) : Option Rs := ab_ex KT none s_End_isAckRight eV_End_isAckRight eI_End_isAckRight i_End_isAckRight h_End_isAckRight f 52 [some (.inr (.inr (7, some v0))), some (.inr (.inr (11, some v1))), some (.inl v2), none] [] m
set_option maxRecDepth 100000 in
set_option maxHeartbeats 4000000 in
theorem b_End_isAckRight_0_eq (f : Nat) (v0 : Nat) (v1 : Nat) (m : Mm) : b_End_isAckRight_0 (f + 1) v0 v1 m =
    (ab_ix (0 : Int32) 7).bind fun i1 =>
    (ab_ix (1 : Int32) 7).bind fun i2 =>
    ab_let (((m.1 38 v1 i1) - (m.1 38 v1 i2))) fun x3 =>
    b_End_isAckRight_10 f v0 v1 x3 (0 : Int32) m := rfl
set_option maxRecDepth 100000 in
set_option maxHeartbeats 4000000 in
theorem b_End_isAckRight_10_eq (f : Nat) (v0 : Nat) (v1 : Nat) (v2 : Int32) (v3 : Int32) (m : Mm) : b_End_isAckRight_10 (f + 1) v0 v1 v2 v3 m =
    (ab_ix (2 : Int32) 7).bind fun i1 =>
    if (m.1 38 v1 i1) ≤ v3 then
      b_End_isAckRight_52 f v0 v1 v2 m
    else
      if (2 : Int32) ≤ v3 then
        b_End_isAckRight_52 f v0 v1 v2 m
      else
        if v2 < 0 then
          b_End_isAckRight_52 f v0 v1 v2 m
        else
          (ab_ix ((3 : Int32) + ((2 : Int32) * v3)) 7).bind fun i2 =>
          (ab_ix ((4 : Int32) + ((2 : Int32) * v3)) 7).bind fun i3 =>
          ab_let ((((v2 - (m.1 38 v1 i2)) - (2 : Int32)) - (m.1 38 v1 i3))) fun x4 =>
          ab_let (v3 + (1 : Int32)) fun x5 =>
          b_End_isAckRight_10 f v0 v1 x4 x5 m := rfl
set_option maxRecDepth 100000 in
set_option maxHeartbeats 4000000 in
theorem b_End_isAckRight_52_eq (f : Nat) (v0 : Nat) (v1 : Nat) (v2 : Int32) (m : Mm) : b_End_isAckRight_52 (f + 1) v0 v1 v2 m =
    (ab_ix (0 : Int32) 7).bind fun i1 =>
    if (m.1 21 v0 0) ≤ (m.1 38 v1 i1) then
      (ab_bo (0 : Int32)).bind fun y2 => some (.inl (some (.inl y2), m))
    else
      if v2 < 0 then
        (ab_bo (0 : Int32)).bind fun y3 => some (.inl (some (.inl y3), m))
      else
        (ab_bo (1 : Int32)).bind fun y4 => some (.inl (some (.inl y4), m)) := rfl
noncomputable def r_End_isAckRight : Nat → Nat → Mm → Option (Int32 × Mm) := ab_seal fun v0 v1 m => ab_rI (b_End_isAckRight_0 50000 v0 v1 m)
theorem r_End_isAckRight_eq (v0 : Nat) (v1 : Nat) (m : Mm) : r_End_isAckRight v0 v1 m = ab_rI (b_End_isAckRight_0 50000 v0 v1 m) := by
  unfold r_End_isAckRight
  rw [ab_seal_eq]
noncomputable def c_End_isAckRight : List AV → Mm → Option (Int32 × Mm) := fun av m => match av with
  | [.inr (.inr (kv0, ov0)), .inr (.inr (kv1, ov1))] => if kv0 = 7 then (if kv1 = 11 then (ov0.bind fun v0 => ov1.bind fun v1 => r_End_isAckRight v0 v1 m) else none) else none
  | _ => none
theorem c_End_isAckRight_inv {av : List AV} {m : Mm} {r : Int32 × Mm} (h : c_End_isAckRight av m = some r) : ∃ (v0 : Nat) (v1 : Nat), av = [.inr (.inr (7, some v0)), .inr (.inr (11, some v1))] ∧ r_End_isAckRight v0 v1 m = some r := by
  unfold c_End_isAckRight at h
  split at h
  · rename_i kv0 ov0 kv1 ov1
    by_cases hkv0 : kv0 = 7
    case neg => rw [if_neg hkv0] at h; cases h
    rw [if_pos hkv0] at h
    subst hkv0
    by_cases hkv1 : kv1 = 11
    case neg => rw [if_neg hkv1] at h; cases h
    rw [if_pos hkv1] at h
    subst hkv1
    obtain ⟨v0, hev0, h⟩ := Option.bind_eq_some_iff.mp h
    obtain ⟨v1, hev1, h⟩ := Option.bind_eq_some_iff.mp h
    subst hev0
    subst hev1
    exact ⟨v0, v1, rfl, h⟩
  · cases h
def cs_End_isAckRight : List Nat := []
set_option maxRecDepth 100000 in
theorem E_End_isAckRight : ∀ (pc : Nat) (q : Ent), i_End_isAckRight pc = some q → ab_E KT CL ab_gW "StreamTransport$End" "isAckRight" (some .boolean) prog_2_method_7_code s_End_isAckRight 4 pc q.1 q.2.1 q.2.2.1 q.2.2.2.1 q.2.2.2.2 := fun pc q hq =>
  ab_Eb_ok lc_End lj_End fl_End (fpn_End "isAckRight") nw_End na_End nq_End (ab_tab_all (t := t_End_isAckRight) (chk := fun pc q => ab_Eb (some .boolean) prog_2_method_7_code s_End_isAckRight 4 LC_End LJ_End FL_End FPn_End NW_End NA_End NQ_End pc q.1 q.2.1 q.2.2.1 q.2.2.2.1 q.2.2.2.2) (by decide +kernel) hq)
set_option maxRecDepth 100000 in
theorem kp_End_isAckRight {av : List AV} {m : Mm} {r : Int32 × Mm} (h : c_End_isAckRight av m = some r) : ab_kp m r.2 := by
  obtain ⟨v0, v1, -, h⟩ := c_End_isAckRight_inv h
  rw [r_End_isAckRight_eq] at h
  have hV : ∀ a av m m', eV_End_isAckRight a av m = some m' → ab_kp m m' := ab_ev_all (P := fun _ m r => ab_kp m r) [] (fun q hq => by cases hq)
  have hI : ∀ a av m q, eI_End_isAckRight a av m = some q → ab_kp m q.2 := ab_ev_all (P := fun _ (m : Mm) (r : Int32 × Mm) => ab_kp m r.2) [] (fun q hq => by cases hq)
  exact ab_kprel (ρ := .inl (some (.inl r.1), r.2)) (ab_tab_isn (t := t_End_isAckRight) (by decide +kernel)) hV hI (ab_rI_inv h)
set_option maxRecDepth 100000 in
theorem cl_End_isAckRight (l : Launch) : ∀ (pc : Nat) (q : Ent), i_End_isAckRight pc = some q → ab_inv q.1 = true → ab_CR l KT CL none ab_gW "StreamTransport$End" prog_2_method_7_code 4 0 0 eV_End_isAckRight eI_End_isAckRight pc q := by
  intro pc q hq hi
  have hm : pc ∈ cs_End_isAckRight := ab_tab_cs (t := t_End_isAckRight) (by decide +kernel) hq hi
  cases hm
theorem cw_End_isAckRight : ab_cw y_End_isAckRight prog_2_method_7_code 4 1 (some .boolean) := ⟨ab_gW_in 679 (by decide +kernel) rfl, ab_gW_in 63 (by decide +kernel) rfl, by decide +kernel, by decide +kernel, by decide +kernel⟩
theorem is_End_isAckRight : Cond.instanceMethod y_End_isAckRight ∈ ab_gW := ab_gW_in 678 (by decide +kernel) rfl
theorem sl_End_isAckRight : Cond.selects "StreamTransport$End" y_End_isAckRight y_End_isAckRight ∈ ab_gW := ab_gW_in 20 (by decide +kernel) rfl
set_option maxRecDepth 100000 in
theorem cm_End_isAckRight (l : Launch) {av : List AV} {m : Mm} {r : Int32 × Mm} (h0 : c_End_isAckRight av m = some r) : ∃ (k q : Nat) (av' : List AV) (ci : Nat) (fs : List (Nat × Nat × Nat × Nat)) (z : vw_C), av = .inr (.inr (k, some q)) :: av' ∧ av'.length = 1 ∧ k ≠ 0 ∧ KT[k]? = some (.inl (ci, fs)) ∧ CL[ci]? = some z ∧ z.1 = "StreamTransport$End" ∧ ab_nos av' ∧ ab_Met l KT CL y_End_isAckRight (Cond.code y_End_isAckRight prog_2_method_7_code 4 (some .boolean) :: ab_gW) 0 0 none av m (some (.inl r.1)) r.2 := by
  obtain ⟨v0, v1, hav, h⟩ := c_End_isAckRight_inv h0
  rw [r_End_isAckRight_eq] at h
  have hmo : ab_mo m r.2 := ab_kp_mo (kp_End_isAckRight h0)
  subst hav
  exact ⟨_, _, _, _, _, _, rfl, rfl, by decide, rfl, rfl, rfl, (by intro v hv q e; subst e; simp at hv), ab_met (by decide +kernel) KT_0 KT_nd KT_k3 E_End_isAckRight (cl_End_isAckRight l) hmo (Nat.le_of_ble_eq_true rfl) (ab_rI_inv h) (fun v hv => by cases hv; exact ⟨_, rfl⟩)⟩
/-! StreamTransport$End.takeAck([I)I -/
def y_End_takeAck : MethodName := ⟨"StreamTransport$End", "takeAck", "([I)I"⟩
def t_End_takeAck (pc : Nat) : Option Ent :=
  bif Nat.blt pc 41 then
    (bif Nat.blt pc 19 then
      (bif Nat.blt pc 11 then
        (bif Nat.blt pc 5 then
          (bif Nat.blt pc 1 then
            (bif Nat.beq pc 0 then some (.aload_n 0, 0, 0, 0, 0) else none)
          else
            bif Nat.blt pc 2 then
              (bif Nat.beq pc 1 then some (.aload_n 1, 1, 0, 0, 0) else none)
            else
              bif Nat.beq pc 2 then some (.invokevirtual 134, 74, 2, 1, 0) else none)
        else
          bif Nat.blt pc 9 then
            (bif Nat.blt pc 8 then
              (bif Nat.beq pc 5 then some (.ifCond .ne (5), 10, 0, 0, 0) else none)
            else
              bif Nat.beq pc 8 then some (.iconst 5, 0, 0, 0, 5) else none)
          else
            bif Nat.blt pc 10 then
              (bif Nat.beq pc 9 then some (.ireturn, 0, 0, 0, 0) else none)
            else
              bif Nat.beq pc 10 then some (.aload_n 1, 1, 0, 0, 0) else none)
      else
        bif Nat.blt pc 15 then
          (bif Nat.blt pc 13 then
            (bif Nat.blt pc 12 then
              (bif Nat.beq pc 11 then some (.iconst 0, 0, 0, 0, 0) else none)
            else
              bif Nat.beq pc 12 then some (.iaload, 0, 0, 0, 0) else none)
          else
            bif Nat.blt pc 14 then
              (bif Nat.beq pc 13 then some (.aload_n 1, 1, 0, 0, 0) else none)
            else
              bif Nat.beq pc 14 then some (.iconst 1, 0, 0, 0, 1) else none)
        else
          bif Nat.blt pc 17 then
            (bif Nat.blt pc 16 then
              (bif Nat.beq pc 15 then some (.iaload, 0, 0, 0, 0) else none)
            else
              bif Nat.beq pc 16 then some (.isub, 0, 0, 0, 0) else none)
          else
            bif Nat.blt pc 18 then
              (bif Nat.beq pc 17 then some (.istore_n 2, 2, 0, 0, 0) else none)
            else
              bif Nat.beq pc 18 then some (.aload_n 0, 0, 0, 0, 0) else none)
    else
      bif Nat.blt pc 29 then
        (bif Nat.blt pc 23 then
          (bif Nat.blt pc 21 then
            (bif Nat.blt pc 20 then
              (bif Nat.beq pc 19 then some (.iload_n 2, 2, 0, 0, 0) else none)
            else
              bif Nat.beq pc 20 then some (.aload_n 1, 1, 0, 0, 0) else none)
          else
            bif Nat.blt pc 22 then
              (bif Nat.beq pc 21 then some (.iconst 0, 0, 0, 0, 0) else none)
            else
              bif Nat.beq pc 22 then some (.iaload, 0, 0, 0, 0) else none)
        else
          bif Nat.blt pc 27 then
            (bif Nat.blt pc 26 then
              (bif Nat.beq pc 23 then some (.invokevirtual 138, 73, 3, 0, 0) else none)
            else
              bif Nat.beq pc 26 then some (.iconst 0, 0, 0, 0, 0) else none)
          else
            bif Nat.blt pc 28 then
              (bif Nat.beq pc 27 then some (.istore_n 3, 3, 0, 0, 0) else none)
            else
              bif Nat.beq pc 28 then some (.iload_n 3, 3, 0, 0, 0) else none)
      else
        bif Nat.blt pc 35 then
          (bif Nat.blt pc 31 then
            (bif Nat.blt pc 30 then
              (bif Nat.beq pc 29 then some (.aload_n 1, 1, 0, 0, 0) else none)
            else
              bif Nat.beq pc 30 then some (.iconst 2, 0, 0, 0, 2) else none)
          else
            bif Nat.blt pc 32 then
              (bif Nat.beq pc 31 then some (.iaload, 0, 0, 0, 0) else none)
            else
              bif Nat.beq pc 32 then some (.if_icmp .ge (45), 77, 0, 0, 0) else none)
        else
          bif Nat.blt pc 37 then
            (bif Nat.blt pc 36 then
              (bif Nat.beq pc 35 then some (.iload_n 3, 3, 0, 0, 0) else none)
            else
              bif Nat.beq pc 36 then some (.iconst 2, 0, 0, 0, 2) else none)
          else
            bif Nat.blt pc 40 then
              (bif Nat.beq pc 37 then some (.if_icmp .ge (40), 77, 0, 0, 0) else none)
            else
              bif Nat.beq pc 40 then some (.iload_n 2, 2, 0, 0, 0) else none)
  else
    bif Nat.blt pc 58 then
      (bif Nat.blt pc 48 then
        (bif Nat.blt pc 44 then
          (bif Nat.blt pc 42 then
            (bif Nat.beq pc 41 then some (.aload_n 1, 1, 0, 0, 0) else none)
          else
            bif Nat.blt pc 43 then
              (bif Nat.beq pc 42 then some (.iconst 3, 0, 0, 0, 3) else none)
            else
              bif Nat.beq pc 43 then some (.iconst 2, 0, 0, 0, 2) else none)
        else
          bif Nat.blt pc 46 then
            (bif Nat.blt pc 45 then
              (bif Nat.beq pc 44 then some (.iload_n 3, 3, 0, 0, 0) else none)
            else
              bif Nat.beq pc 45 then some (.imul, 0, 0, 0, 0) else none)
          else
            bif Nat.blt pc 47 then
              (bif Nat.beq pc 46 then some (.iadd, 0, 0, 0, 0) else none)
            else
              bif Nat.beq pc 47 then some (.iaload, 0, 0, 0, 0) else none)
      else
        bif Nat.blt pc 53 then
          (bif Nat.blt pc 50 then
            (bif Nat.blt pc 49 then
              (bif Nat.beq pc 48 then some (.isub, 0, 0, 0, 0) else none)
            else
              bif Nat.beq pc 49 then some (.iconst 2, 0, 0, 0, 2) else none)
          else
            bif Nat.blt pc 51 then
              (bif Nat.beq pc 50 then some (.isub, 0, 0, 0, 0) else none)
            else
              bif Nat.beq pc 51 then some (.istore 4, 4, 0, 0, 0) else none)
        else
          bif Nat.blt pc 56 then
            (bif Nat.blt pc 55 then
              (bif Nat.beq pc 53 then some (.iload 4, 4, 0, 0, 0) else none)
            else
              bif Nat.beq pc 55 then some (.aload_n 1, 1, 0, 0, 0) else none)
          else
            bif Nat.blt pc 57 then
              (bif Nat.beq pc 56 then some (.iconst 4, 0, 0, 0, 4) else none)
            else
              bif Nat.beq pc 57 then some (.iconst 2, 0, 0, 0, 2) else none)
    else
      bif Nat.blt pc 66 then
        (bif Nat.blt pc 62 then
          (bif Nat.blt pc 60 then
            (bif Nat.blt pc 59 then
              (bif Nat.beq pc 58 then some (.iload_n 3, 3, 0, 0, 0) else none)
            else
              bif Nat.beq pc 59 then some (.imul, 0, 0, 0, 0) else none)
          else
            bif Nat.blt pc 61 then
              (bif Nat.beq pc 60 then some (.iadd, 0, 0, 0, 0) else none)
            else
              bif Nat.beq pc 61 then some (.iaload, 0, 0, 0, 0) else none)
        else
          bif Nat.blt pc 64 then
            (bif Nat.blt pc 63 then
              (bif Nat.beq pc 62 then some (.isub, 0, 0, 0, 0) else none)
            else
              bif Nat.beq pc 63 then some (.istore_n 2, 2, 0, 0, 0) else none)
          else
            bif Nat.blt pc 65 then
              (bif Nat.beq pc 64 then some (.aload_n 0, 0, 0, 0, 0) else none)
            else
              bif Nat.beq pc 65 then some (.iload_n 2, 2, 0, 0, 0) else none)
      else
        bif Nat.blt pc 77 then
          (bif Nat.blt pc 71 then
            (bif Nat.blt pc 68 then
              (bif Nat.beq pc 66 then some (.iload 4, 4, 0, 0, 0) else none)
            else
              bif Nat.beq pc 68 then some (.invokevirtual 138, 73, 3, 0, 0) else none)
          else
            bif Nat.blt pc 74 then
              (bif Nat.beq pc 71 then some (.iinc 3 1, 3, 0, 0, 1) else none)
            else
              bif Nat.beq pc 74 then some (.goto (-46), 28, 0, 0, 0) else none)
        else
          bif Nat.blt pc 81 then
            (bif Nat.blt pc 78 then
              (bif Nat.beq pc 77 then some (.aload_n 0, 0, 0, 0, 0) else none)
            else
              bif Nat.beq pc 78 then some (.invokevirtual 141, 72, 1, 0, 0) else none)
          else
            bif Nat.blt pc 82 then
              (bif Nat.beq pc 81 then some (.iconst 0, 0, 0, 0, 0) else none)
            else
              bif Nat.beq pc 82 then some (.ireturn, 0, 0, 0, 0) else none
def i_End_takeAck : Nat → Option Ent := ab_tab 83 t_End_takeAck
def h_End_takeAck (pc : Nat) : Nat × List Bool := bif Nat.beq pc 28 then (1, [true, true, true, true, false]) else bif Nat.beq pc 77 then (1, [true, false, false, false, false]) else (0, [])
def s_End_takeAck (pc : Nat) : List (Int32 × Nat) × Nat := ([], 0)
noncomputable def eV_End_takeAck : Nat → List AV → Mm → Option Mm := ab_ev [(73, c_End_ackRange), (72, c_End_loseOvertaken)]
noncomputable def eI_End_takeAck : Nat → List AV → Mm → Option (Int32 × Mm) := ab_ev [(74, c_End_isAckRight)]
noncomputable def b_End_takeAck_0 (f : Nat) (v0 : Nat) (v1 : Nat) (m : Mm) : Option Rs := ab_ex KT none s_End_takeAck eV_End_takeAck eI_End_takeAck i_End_takeAck h_End_takeAck f 0 [some (.inr (.inr (7, some v0))), some (.inr (.inr (11, some v1))), none, none, none] [] m
noncomputable def b_End_takeAck_28 (f : Nat) (v0 : Nat) (v1 : Nat) (v2 : Int32) (v3 : Int32) (m : Mm) : Option Rs := ab_ex KT none s_End_takeAck eV_End_takeAck eI_End_takeAck i_End_takeAck h_End_takeAck f 28 [some (.inr (.inr (7, some v0))), some (.inr (.inr (11, some v1))), some (.inl v2), some (.inl v3), none] [] m
noncomputable def b_End_takeAck_77 (f : Nat) (v0 : Nat) (m : Mm) : Option Rs := ab_ex KT none s_End_takeAck eV_End_takeAck eI_End_takeAck i_End_takeAck h_End_takeAck f 77 [some (.inr (.inr (7, some v0))), none, none, none, none] [] m
set_option maxRecDepth 100000 in
set_option maxHeartbeats 4000000 in
theorem b_End_takeAck_0_eq (f : Nat) (v0 : Nat) (v1 : Nat) (m : Mm) : b_End_takeAck_0 (f + 1) v0 v1 m =
    (r_End_isAckRight v0 v1 m).bind fun z1 =>
    if z1.1 = 0 then
      some (.inl (some (.inl (5 : Int32)), z1.2))
    else
      (ab_ix (0 : Int32) 7).bind fun i2 =>
      (ab_ix (1 : Int32) 7).bind fun i3 =>
      ab_let (((z1.2.1 38 v1 i2) - (z1.2.1 38 v1 i3))) fun x4 =>
      (ab_ix (0 : Int32) 7).bind fun i5 =>
      (r_End_ackRange v0 x4 (z1.2.1 38 v1 i5) z1.2).bind fun m6 =>
      b_End_takeAck_28 f v0 v1 x4 (0 : Int32) m6 := rfl
set_option maxRecDepth 100000 in
set_option maxHeartbeats 4000000 in
theorem b_End_takeAck_28_eq (f : Nat) (v0 : Nat) (v1 : Nat) (v2 : Int32) (v3 : Int32) (m : Mm) : b_End_takeAck_28 (f + 1) v0 v1 v2 v3 m =
    (ab_ix (2 : Int32) 7).bind fun i1 =>
    if (m.1 38 v1 i1) ≤ v3 then
      b_End_takeAck_77 f v0 m
    else
      if (2 : Int32) ≤ v3 then
        b_End_takeAck_77 f v0 m
      else
        (ab_ix ((3 : Int32) + ((2 : Int32) * v3)) 7).bind fun i2 =>
        ab_let (((v2 - (m.1 38 v1 i2)) - (2 : Int32))) fun x3 =>
        (ab_ix ((4 : Int32) + ((2 : Int32) * v3)) 7).bind fun i4 =>
        ab_let ((x3 - (m.1 38 v1 i4))) fun x5 =>
        (r_End_ackRange v0 x5 x3 m).bind fun m6 =>
        ab_let (v3 + (1 : Int32)) fun x7 =>
        b_End_takeAck_28 f v0 v1 x5 x7 m6 := rfl
set_option maxRecDepth 100000 in
set_option maxHeartbeats 4000000 in
theorem b_End_takeAck_77_eq (f : Nat) (v0 : Nat) (m : Mm) : b_End_takeAck_77 (f + 1) v0 m =
    (r_End_loseOvertaken v0 m).bind fun m1 =>
    some (.inl (some (.inl (0 : Int32)), m1)) := rfl
noncomputable def r_End_takeAck : Nat → Nat → Mm → Option (Int32 × Mm) := ab_seal fun v0 v1 m => ab_rI (b_End_takeAck_0 50000 v0 v1 m)
theorem r_End_takeAck_eq (v0 : Nat) (v1 : Nat) (m : Mm) : r_End_takeAck v0 v1 m = ab_rI (b_End_takeAck_0 50000 v0 v1 m) := by
  unfold r_End_takeAck
  rw [ab_seal_eq]
noncomputable def c_End_takeAck : List AV → Mm → Option (Int32 × Mm) := fun av m => match av with
  | [.inr (.inr (kv0, ov0)), .inr (.inr (kv1, ov1))] => if kv0 = 7 then (if kv1 = 11 then (ov0.bind fun v0 => ov1.bind fun v1 => r_End_takeAck v0 v1 m) else none) else none
  | _ => none
theorem c_End_takeAck_inv {av : List AV} {m : Mm} {r : Int32 × Mm} (h : c_End_takeAck av m = some r) : ∃ (v0 : Nat) (v1 : Nat), av = [.inr (.inr (7, some v0)), .inr (.inr (11, some v1))] ∧ r_End_takeAck v0 v1 m = some r := by
  unfold c_End_takeAck at h
  split at h
  · rename_i kv0 ov0 kv1 ov1
    by_cases hkv0 : kv0 = 7
    case neg => rw [if_neg hkv0] at h; cases h
    rw [if_pos hkv0] at h
    subst hkv0
    by_cases hkv1 : kv1 = 11
    case neg => rw [if_neg hkv1] at h; cases h
    rw [if_pos hkv1] at h
    subst hkv1
    obtain ⟨v0, hev0, h⟩ := Option.bind_eq_some_iff.mp h
    obtain ⟨v1, hev1, h⟩ := Option.bind_eq_some_iff.mp h
    subst hev0
    subst hev1
    exact ⟨v0, v1, rfl, h⟩
  · cases h
def cs_End_takeAck : List Nat := [2, 23, 68, 78]
set_option maxRecDepth 100000 in
theorem E_End_takeAck : ∀ (pc : Nat) (q : Ent), i_End_takeAck pc = some q → ab_E KT CL ab_gW "StreamTransport$End" "takeAck" (some .int) prog_2_method_6_code s_End_takeAck 5 pc q.1 q.2.1 q.2.2.1 q.2.2.2.1 q.2.2.2.2 := fun pc q hq =>
  ab_Eb_ok lc_End lj_End fl_End (fpn_End "takeAck") nw_End na_End nq_End (ab_tab_all (t := t_End_takeAck) (chk := fun pc q => ab_Eb (some .int) prog_2_method_6_code s_End_takeAck 5 LC_End LJ_End FL_End FPn_End NW_End NA_End NQ_End pc q.1 q.2.1 q.2.2.1 q.2.2.2.1 q.2.2.2.2) (by decide +kernel) hq)
set_option maxRecDepth 100000 in
theorem kp_End_takeAck {av : List AV} {m : Mm} {r : Int32 × Mm} (h : c_End_takeAck av m = some r) : ab_kp m r.2 := by
  obtain ⟨v0, v1, -, h⟩ := c_End_takeAck_inv h
  rw [r_End_takeAck_eq] at h
  have hV : ∀ a av m m', eV_End_takeAck a av m = some m' → ab_kp m m' := ab_ev_all (P := fun _ m r => ab_kp m r) [(73, c_End_ackRange), (72, c_End_loseOvertaken)] (List.forall_mem_cons.mpr ⟨fun av m r h => kp_End_ackRange h, List.forall_mem_cons.mpr ⟨fun av m r h => kp_End_loseOvertaken h, fun q hq => by cases hq⟩⟩)
  have hI : ∀ a av m q, eI_End_takeAck a av m = some q → ab_kp m q.2 := ab_ev_all (P := fun _ (m : Mm) (r : Int32 × Mm) => ab_kp m r.2) [(74, c_End_isAckRight)] (List.forall_mem_cons.mpr ⟨fun av m r h => kp_End_isAckRight h, fun q hq => by cases hq⟩)
  exact ab_kprel (ρ := .inl (some (.inl r.1), r.2)) (ab_tab_isn (t := t_End_takeAck) (by decide +kernel)) hV hI (ab_rI_inv h)
set_option maxRecDepth 100000 in
theorem cl_End_takeAck (l : Launch) : ∀ (pc : Nat) (q : Ent), i_End_takeAck pc = some q → ab_inv q.1 = true → ab_CR l KT CL none ab_gW "StreamTransport$End" prog_2_method_6_code 5 4 90 eV_End_takeAck eI_End_takeAck pc q := by
  intro pc q hq hi
  have hm : pc ∈ cs_End_takeAck := ab_tab_cs (t := t_End_takeAck) (by decide +kernel) hq hi
  simp only [cs_End_takeAck, List.mem_cons, List.not_mem_nil, or_false] at hm
  rcases hm with rfl | rfl | rfl | rfl
  · cases (Option.some.inj hq : ((.invokevirtual 134, 74, 2, 1, 0) : Ent) = q)
    exact ab_crV (C := "StreamTransport$End") (by decide +kernel) cw_End_isAckRight (ab_gW_in 676 (by decide +kernel) rfl) is_End_isAckRight sl_End_isAckRight (by decide) (fun av m m' h => by cases h) (fun av m r h => cm_End_isAckRight l h) KT_nd
  · cases (Option.some.inj hq : ((.invokevirtual 138, 73, 3, 0, 0) : Ent) = q)
    exact ab_crV (C := "StreamTransport$End") (by decide +kernel) cw_End_ackRange (ab_gW_in 680 (by decide +kernel) rfl) is_End_ackRange sl_End_ackRange (by decide) (fun av m m' h => cm_End_ackRange l h) (fun av m r h => by cases h) KT_nd
  · cases (Option.some.inj hq : ((.invokevirtual 138, 73, 3, 0, 0) : Ent) = q)
    exact ab_crV (C := "StreamTransport$End") (by decide +kernel) cw_End_ackRange (ab_gW_in 680 (by decide +kernel) rfl) is_End_ackRange sl_End_ackRange (by decide) (fun av m m' h => cm_End_ackRange l h) (fun av m r h => by cases h) KT_nd
  · cases (Option.some.inj hq : ((.invokevirtual 141, 72, 1, 0, 0) : Ent) = q)
    exact ab_crV (C := "StreamTransport$End") (by decide +kernel) cw_End_loseOvertaken (ab_gW_in 689 (by decide +kernel) rfl) is_End_loseOvertaken sl_End_loseOvertaken (by decide) (fun av m m' h => cm_End_loseOvertaken l h) (fun av m r h => by cases h) KT_nd
theorem cw_End_takeAck : ab_cw y_End_takeAck prog_2_method_6_code 5 1 (some .int) := ⟨ab_gW_in 675 (by decide +kernel) rfl, ab_gW_in 63 (by decide +kernel) rfl, by decide +kernel, by decide +kernel, by decide +kernel⟩
theorem is_End_takeAck : Cond.instanceMethod y_End_takeAck ∈ ab_gW := ab_gW_in 674 (by decide +kernel) rfl
theorem sl_End_takeAck : Cond.selects "StreamTransport$End" y_End_takeAck y_End_takeAck ∈ ab_gW := ab_gW_in 19 (by decide +kernel) rfl
set_option maxRecDepth 100000 in
theorem cm_End_takeAck (l : Launch) {av : List AV} {m : Mm} {r : Int32 × Mm} (h0 : c_End_takeAck av m = some r) : ∃ (k q : Nat) (av' : List AV) (ci : Nat) (fs : List (Nat × Nat × Nat × Nat)) (z : vw_C), av = .inr (.inr (k, some q)) :: av' ∧ av'.length = 1 ∧ k ≠ 0 ∧ KT[k]? = some (.inl (ci, fs)) ∧ CL[ci]? = some z ∧ z.1 = "StreamTransport$End" ∧ ab_nos av' ∧ ab_Met l KT CL y_End_takeAck (Cond.code y_End_takeAck prog_2_method_6_code 5 (some .int) :: ab_gW) 4 90 none av m (some (.inl r.1)) r.2 := by
  obtain ⟨v0, v1, hav, h⟩ := c_End_takeAck_inv h0
  rw [r_End_takeAck_eq] at h
  have hmo : ab_mo m r.2 := ab_kp_mo (kp_End_takeAck h0)
  subst hav
  exact ⟨_, _, _, _, _, _, rfl, rfl, by decide, rfl, rfl, rfl, (by intro v hv q e; subst e; simp at hv), ab_met (by decide +kernel) KT_0 KT_nd KT_k3 E_End_takeAck (cl_End_takeAck l) hmo (Nat.le_of_ble_eq_true rfl) (ab_rI_inv h) (fun v hv => by cases hv; exact ⟨_, rfl⟩)⟩
/-! StreamTransport$End.takeFrame()I -/
def y_End_takeFrame : MethodName := ⟨"StreamTransport$End", "takeFrame", "()I"⟩
def t_End_takeFrame (pc : Nat) : Option Ent :=
  bif Nat.blt pc 89 then
    (bif Nat.blt pc 34 then
      (bif Nat.blt pc 16 then
        (bif Nat.blt pc 8 then
          (bif Nat.blt pc 4 then
            (bif Nat.blt pc 1 then
              (bif Nat.beq pc 0 then some (.aload_n 0, 0, 0, 0, 0) else none)
            else
              bif Nat.beq pc 1 then some (.getfield 21, 0, 4, 1, 0) else none)
          else
            bif Nat.blt pc 7 then
              (bif Nat.beq pc 4 then some (.getfield 106, 6, 0, 1, 0) else none)
            else
              bif Nat.beq pc 7 then some (.astore_n 1, 1, 0, 0, 0) else none)
        else
          bif Nat.blt pc 12 then
            (bif Nat.blt pc 9 then
              (bif Nat.beq pc 8 then some (.aload_n 0, 0, 0, 0, 0) else none)
            else
              bif Nat.beq pc 9 then some (.getfield 21, 0, 4, 1, 0) else none)
          else
            bif Nat.blt pc 15 then
              (bif Nat.beq pc 12 then some (.getfield 110, 6, 1, 0, 0) else none)
            else
              bif Nat.beq pc 15 then some (.iconst 1, 0, 0, 0, 1) else none)
      else
        bif Nat.blt pc 24 then
          (bif Nat.blt pc 20 then
            (bif Nat.blt pc 19 then
              (bif Nat.beq pc 16 then some (.if_icmp .ne (9), 25, 0, 0, 0) else none)
            else
              bif Nat.beq pc 19 then some (.aload_n 0, 0, 0, 0, 0) else none)
          else
            bif Nat.blt pc 21 then
              (bif Nat.beq pc 20 then some (.aload_n 1, 1, 0, 0, 0) else none)
            else
              bif Nat.beq pc 21 then some (.invokevirtual 113, 75, 2, 1, 0) else none)
        else
          bif Nat.blt pc 26 then
            (bif Nat.blt pc 25 then
              (bif Nat.beq pc 24 then some (.ireturn, 0, 0, 0, 0) else none)
            else
              bif Nat.beq pc 25 then some (.aload_n 0, 0, 0, 0, 0) else none)
          else
            bif Nat.blt pc 29 then
              (bif Nat.beq pc 26 then some (.getfield 21, 0, 4, 1, 0) else none)
            else
              bif Nat.blt pc 32 then
                (bif Nat.beq pc 29 then some (.getfield 110, 6, 1, 0, 0) else none)
              else
                bif Nat.beq pc 32 then some (.bipush 6, 0, 0, 0, 6) else none)
    else
      bif Nat.blt pc 46 then
        (bif Nat.blt pc 40 then
          (bif Nat.blt pc 38 then
            (bif Nat.blt pc 37 then
              (bif Nat.beq pc 34 then some (.if_icmp .ne (13), 47, 0, 0, 0) else none)
            else
              bif Nat.beq pc 37 then some (.aload_n 0, 0, 0, 0, 0) else none)
          else
            bif Nat.blt pc 39 then
              (bif Nat.beq pc 38 then some (.aload_n 1, 1, 0, 0, 0) else none)
            else
              bif Nat.beq pc 39 then some (.iconst 0, 0, 0, 0, 0) else none)
        else
          bif Nat.blt pc 42 then
            (bif Nat.blt pc 41 then
              (bif Nat.beq pc 40 then some (.iaload, 0, 0, 0, 0) else none)
            else
              bif Nat.beq pc 41 then some (.iconst 0, 0, 0, 0, 0) else none)
          else
            bif Nat.blt pc 45 then
              (bif Nat.beq pc 42 then some (.invokevirtual 102, 68, 3, 0, 0) else none)
            else
              bif Nat.beq pc 45 then some (.iconst 0, 0, 0, 0, 0) else none)
      else
        bif Nat.blt pc 52 then
          (bif Nat.blt pc 48 then
            (bif Nat.blt pc 47 then
              (bif Nat.beq pc 46 then some (.ireturn, 0, 0, 0, 0) else none)
            else
              bif Nat.beq pc 47 then some (.aload_n 0, 0, 0, 0, 0) else none)
          else
            bif Nat.blt pc 49 then
              (bif Nat.beq pc 48 then some (.iconst 1, 0, 0, 0, 1) else none)
            else
              bif Nat.beq pc 49 then some (.putfield 117, 0, 11, 0, 0) else none)
        else
          bif Nat.blt pc 56 then
            (bif Nat.blt pc 53 then
              (bif Nat.beq pc 52 then some (.aload_n 0, 0, 0, 0, 0) else none)
            else
              bif Nat.beq pc 53 then some (.getfield 21, 0, 4, 1, 0) else none)
          else
            bif Nat.blt pc 59 then
              (bif Nat.beq pc 56 then some (.getfield 110, 6, 1, 0, 0) else none)
            else
              bif Nat.blt pc 88 then
                (bif Nat.beq pc 59 then some (.tableswitch (81) (2) (5) #[(29), (69), (55), (41)], 0, 0, 0, 0) else none)
              else
                bif Nat.beq pc 88 then some (.aload_n 0, 0, 0, 0, 0) else none)
  else
    bif Nat.blt pc 118 then
      (bif Nat.blt pc 105 then
        (bif Nat.blt pc 99 then
          (bif Nat.blt pc 93 then
            (bif Nat.blt pc 92 then
              (bif Nat.beq pc 89 then some (.getfield 46, 0, 1, 1, 0) else none)
            else
              bif Nat.beq pc 92 then some (.aload_n 0, 0, 0, 0, 0) else none)
          else
            bif Nat.blt pc 96 then
              (bif Nat.beq pc 93 then some (.getfield 21, 0, 4, 1, 0) else none)
            else
              bif Nat.beq pc 96 then some (.invokevirtual 120, 61, 2, 1, 0) else none)
        else
          bif Nat.blt pc 101 then
            (bif Nat.blt pc 100 then
              (bif Nat.beq pc 99 then some (.ireturn, 0, 0, 0, 0) else none)
            else
              bif Nat.beq pc 100 then some (.aload_n 0, 0, 0, 0, 0) else none)
          else
            bif Nat.blt pc 104 then
              (bif Nat.beq pc 101 then some (.getfield 46, 0, 1, 1, 0) else none)
            else
              bif Nat.beq pc 104 then some (.aload_n 1, 1, 0, 0, 0) else none)
      else
        bif Nat.blt pc 109 then
          (bif Nat.blt pc 107 then
            (bif Nat.blt pc 106 then
              (bif Nat.beq pc 105 then some (.iconst 0, 0, 0, 0, 0) else none)
            else
              bif Nat.beq pc 106 then some (.iaload, 0, 0, 0, 0) else none)
          else
            bif Nat.blt pc 108 then
              (bif Nat.beq pc 107 then some (.aload_n 1, 1, 0, 0, 0) else none)
            else
              bif Nat.beq pc 108 then some (.iconst 1, 0, 0, 0, 1) else none)
        else
          bif Nat.blt pc 113 then
            (bif Nat.blt pc 110 then
              (bif Nat.beq pc 109 then some (.iaload, 0, 0, 0, 0) else none)
            else
              bif Nat.beq pc 110 then some (.invokevirtual 124, 62, 3, 1, 0) else none)
          else
            bif Nat.blt pc 114 then
              (bif Nat.beq pc 113 then some (.ireturn, 0, 0, 0, 0) else none)
            else
              bif Nat.blt pc 115 then
                (bif Nat.beq pc 114 then some (.aload_n 0, 0, 0, 0, 0) else none)
              else
                bif Nat.beq pc 115 then some (.getfield 53, 0, 2, 1, 0) else none)
    else
      bif Nat.blt pc 129 then
        (bif Nat.blt pc 122 then
          (bif Nat.blt pc 120 then
            (bif Nat.blt pc 119 then
              (bif Nat.beq pc 118 then some (.aload_n 1, 1, 0, 0, 0) else none)
            else
              bif Nat.beq pc 119 then some (.iconst 0, 0, 0, 0, 0) else none)
          else
            bif Nat.blt pc 121 then
              (bif Nat.beq pc 120 then some (.iaload, 0, 0, 0, 0) else none)
            else
              bif Nat.beq pc 121 then some (.aload_n 1, 1, 0, 0, 0) else none)
        else
          bif Nat.blt pc 124 then
            (bif Nat.blt pc 123 then
              (bif Nat.beq pc 122 then some (.iconst 1, 0, 0, 0, 1) else none)
            else
              bif Nat.beq pc 123 then some (.iaload, 0, 0, 0, 0) else none)
          else
            bif Nat.blt pc 127 then
              (bif Nat.beq pc 124 then some (.invokevirtual 128, 41, 3, 1, 0) else none)
            else
              bif Nat.blt pc 128 then
                (bif Nat.beq pc 127 then some (.ireturn, 0, 0, 0, 0) else none)
              else
                bif Nat.beq pc 128 then some (.aload_n 0, 0, 0, 0, 0) else none)
      else
        bif Nat.blt pc 135 then
          (bif Nat.blt pc 133 then
            (bif Nat.blt pc 132 then
              (bif Nat.beq pc 129 then some (.getfield 53, 0, 2, 1, 0) else none)
            else
              bif Nat.beq pc 132 then some (.aload_n 1, 1, 0, 0, 0) else none)
          else
            bif Nat.blt pc 134 then
              (bif Nat.beq pc 133 then some (.iconst 0, 0, 0, 0, 0) else none)
            else
              bif Nat.beq pc 134 then some (.iaload, 0, 0, 0, 0) else none)
        else
          bif Nat.blt pc 139 then
            (bif Nat.blt pc 138 then
              (bif Nat.beq pc 135 then some (.invokevirtual 131, 40, 2, 0, 0) else none)
            else
              bif Nat.beq pc 138 then some (.iconst 0, 0, 0, 0, 0) else none)
          else
            bif Nat.blt pc 140 then
              (bif Nat.beq pc 139 then some (.ireturn, 0, 0, 0, 0) else none)
            else
              bif Nat.blt pc 141 then
                (bif Nat.beq pc 140 then some (.iconst 0, 0, 0, 0, 0) else none)
              else
                bif Nat.beq pc 141 then some (.ireturn, 0, 0, 0, 0) else none
def i_End_takeFrame : Nat → Option Ent := ab_tab 142 t_End_takeFrame
def h_End_takeFrame (pc : Nat) : Nat × List Bool := (0, [])
def s_End_takeFrame (pc : Nat) : List (Int32 × Nat) × Nat := bif Nat.beq pc 59 then ([(2, 88), (3, 128), (4, 114), (5, 100)], 140) else ([], 0)
noncomputable def eV_End_takeFrame : Nat → List AV → Mm → Option Mm := ab_ev [(68, c_End_shut), (40, c_Otf_raiseAll)]
noncomputable def eI_End_takeFrame : Nat → List AV → Mm → Option (Int32 × Mm) := ab_ev [(75, c_End_takeAck), (61, c_Int_takeData), (62, c_Int_takeReset), (41, c_Otf_raiseOne)]
noncomputable def b_End_takeFrame_0 (f : Nat) (v0 : Nat) (m : Mm) : Option Rs := ab_ex KT none s_End_takeFrame eV_End_takeFrame eI_End_takeFrame i_End_takeFrame h_End_takeFrame f 0 [some (.inr (.inr (7, some v0))), none] [] m
set_option maxRecDepth 100000 in
set_option maxHeartbeats 4000000 in
theorem b_End_takeFrame_0_eq (f : Nat) (v0 : Nat) (m : Mm) : b_End_takeFrame_0 (f + 1) v0 m =
    if (m.1 33 (v0 + 3) 0) = (1 : Int32) then
      (r_End_takeAck v0 ((v0 + 3) + 1) m).bind fun z14 =>
      some (.inl (some (.inl z14.1), z14.2))
    else
      if (m.1 33 (v0 + 3) 0) = (6 : Int32) then
        (ab_ix (0 : Int32) 7).bind fun i12 =>
        (r_End_shut v0 (m.1 38 ((v0 + 3) + 1) i12) (0 : Int32) m).bind fun m13 =>
        some (.inl (some (.inl (0 : Int32)), m13))
      else
        (ab_bo (1 : Int32)).bind fun y2 =>
        ab_let (ab_uI m 26 v0 0 y2) fun m1 =>
        if (m1.1 33 (v0 + 3) 0) = (2 : Int32) then
          (r_Int_takeData (v0 + 6) (v0 + 3) m1).bind fun z3 =>
          some (.inl (some (.inl z3.1), z3.2))
        else if (m1.1 33 (v0 + 3) 0) = (3 : Int32) then
          (ab_ix (0 : Int32) 7).bind fun i4 =>
          (r_Otf_raiseAll (v0 + 16) (m1.1 38 ((v0 + 3) + 1) i4) m1).bind fun m5 =>
          some (.inl (some (.inl (0 : Int32)), m5))
        else if (m1.1 33 (v0 + 3) 0) = (4 : Int32) then
          (ab_ix (0 : Int32) 7).bind fun i6 =>
          (ab_ix (1 : Int32) 7).bind fun i7 =>
          (r_Otf_raiseOne (v0 + 16) (m1.1 38 ((v0 + 3) + 1) i6) (m1.1 38 ((v0 + 3) + 1) i7) m1).bind fun z8 =>
          some (.inl (some (.inl z8.1), z8.2))
        else if (m1.1 33 (v0 + 3) 0) = (5 : Int32) then
          (ab_ix (0 : Int32) 7).bind fun i9 =>
          (ab_ix (1 : Int32) 7).bind fun i10 =>
          (r_Int_takeReset (v0 + 6) (m1.1 38 ((v0 + 3) + 1) i9) (m1.1 38 ((v0 + 3) + 1) i10) m1).bind fun z11 =>
          some (.inl (some (.inl z11.1), z11.2))
        else 
          some (.inl (some (.inl (0 : Int32)), m1)) := rfl
noncomputable def r_End_takeFrame : Nat → Mm → Option (Int32 × Mm) := ab_seal fun v0 m => ab_rI (b_End_takeFrame_0 50000 v0 m)
theorem r_End_takeFrame_eq (v0 : Nat) (m : Mm) : r_End_takeFrame v0 m = ab_rI (b_End_takeFrame_0 50000 v0 m) := by
  unfold r_End_takeFrame
  rw [ab_seal_eq]
noncomputable def c_End_takeFrame : List AV → Mm → Option (Int32 × Mm) := fun av m => match av with
  | [.inr (.inr (kv0, ov0))] => if kv0 = 7 then (ov0.bind fun v0 => r_End_takeFrame v0 m) else none
  | _ => none
theorem c_End_takeFrame_inv {av : List AV} {m : Mm} {r : Int32 × Mm} (h : c_End_takeFrame av m = some r) : ∃ (v0 : Nat), av = [.inr (.inr (7, some v0))] ∧ r_End_takeFrame v0 m = some r := by
  unfold c_End_takeFrame at h
  split at h
  · rename_i kv0 ov0
    by_cases hkv0 : kv0 = 7
    case neg => rw [if_neg hkv0] at h; cases h
    rw [if_pos hkv0] at h
    subst hkv0
    obtain ⟨v0, hev0, h⟩ := Option.bind_eq_some_iff.mp h
    subst hev0
    exact ⟨v0, rfl, h⟩
  · cases h
def cs_End_takeFrame : List Nat := [21, 42, 96, 110, 124, 135]
set_option maxRecDepth 100000 in
theorem E_End_takeFrame : ∀ (pc : Nat) (q : Ent), i_End_takeFrame pc = some q → ab_E KT CL ab_gW "StreamTransport$End" "takeFrame" (some .int) prog_2_method_5_code s_End_takeFrame 2 pc q.1 q.2.1 q.2.2.1 q.2.2.2.1 q.2.2.2.2 := fun pc q hq =>
  ab_Eb_ok lc_End lj_End fl_End (fpn_End "takeFrame") nw_End na_End nq_End (ab_tab_all (t := t_End_takeFrame) (chk := fun pc q => ab_Eb (some .int) prog_2_method_5_code s_End_takeFrame 2 LC_End LJ_End FL_End FPn_End NW_End NA_End NQ_End pc q.1 q.2.1 q.2.2.1 q.2.2.2.1 q.2.2.2.2) (by decide +kernel) hq)
set_option maxRecDepth 100000 in
theorem kp_End_takeFrame {av : List AV} {m : Mm} {r : Int32 × Mm} (h : c_End_takeFrame av m = some r) : ab_kp m r.2 := by
  obtain ⟨v0, -, h⟩ := c_End_takeFrame_inv h
  rw [r_End_takeFrame_eq] at h
  have hV : ∀ a av m m', eV_End_takeFrame a av m = some m' → ab_kp m m' := ab_ev_all (P := fun _ m r => ab_kp m r) [(68, c_End_shut), (40, c_Otf_raiseAll)] (List.forall_mem_cons.mpr ⟨fun av m r h => kp_End_shut h, List.forall_mem_cons.mpr ⟨fun av m r h => kp_Otf_raiseAll h, fun q hq => by cases hq⟩⟩)
  have hI : ∀ a av m q, eI_End_takeFrame a av m = some q → ab_kp m q.2 := ab_ev_all (P := fun _ (m : Mm) (r : Int32 × Mm) => ab_kp m r.2) [(75, c_End_takeAck), (61, c_Int_takeData), (62, c_Int_takeReset), (41, c_Otf_raiseOne)] (List.forall_mem_cons.mpr ⟨fun av m r h => kp_End_takeAck h, List.forall_mem_cons.mpr ⟨fun av m r h => kp_Int_takeData h, List.forall_mem_cons.mpr ⟨fun av m r h => kp_Int_takeReset h, List.forall_mem_cons.mpr ⟨fun av m r h => kp_Otf_raiseOne h, fun q hq => by cases hq⟩⟩⟩⟩)
  exact ab_kprel (ρ := .inl (some (.inl r.1), r.2)) (ab_tab_isn (t := t_End_takeFrame) (by decide +kernel)) hV hI (ab_rI_inv h)
set_option maxRecDepth 100000 in
theorem cl_End_takeFrame (l : Launch) : ∀ (pc : Nat) (q : Ent), i_End_takeFrame pc = some q → ab_inv q.1 = true → ab_CR l KT CL none ab_gW "StreamTransport$End" prog_2_method_5_code 2 5 114 eV_End_takeFrame eI_End_takeFrame pc q := by
  intro pc q hq hi
  have hm : pc ∈ cs_End_takeFrame := ab_tab_cs (t := t_End_takeFrame) (by decide +kernel) hq hi
  simp only [cs_End_takeFrame, List.mem_cons, List.not_mem_nil, or_false] at hm
  rcases hm with rfl | rfl | rfl | rfl | rfl | rfl
  · cases (Option.some.inj hq : ((.invokevirtual 113, 75, 2, 1, 0) : Ent) = q)
    exact ab_crV (C := "StreamTransport$End") (by decide +kernel) cw_End_takeAck (ab_gW_in 672 (by decide +kernel) rfl) is_End_takeAck sl_End_takeAck (by decide) (fun av m m' h => by cases h) (fun av m r h => cm_End_takeAck l h) KT_nd
  · cases (Option.some.inj hq : ((.invokevirtual 102, 68, 3, 0, 0) : Ent) = q)
    exact ab_crV (C := "StreamTransport$End") (by decide +kernel) cw_End_shut (ab_gW_in 701 (by decide +kernel) rfl) is_End_shut sl_End_shut (by decide) (fun av m m' h => cm_End_shut l h) (fun av m r h => by cases h) KT_nd
  · cases (Option.some.inj hq : ((.invokevirtual 120, 61, 2, 1, 0) : Ent) = q)
    exact ab_crV (C := "StreamTransport$Intake") (by decide +kernel) cw_Int_takeData (ab_gW_in 702 (by decide +kernel) rfl) is_Int_takeData sl_Int_takeData (by decide) (fun av m m' h => by cases h) (fun av m r h => cm_Int_takeData l h) KT_nd
  · cases (Option.some.inj hq : ((.invokevirtual 124, 62, 3, 1, 0) : Ent) = q)
    exact ab_crV (C := "StreamTransport$Intake") (by decide +kernel) cw_Int_takeReset (ab_gW_in 732 (by decide +kernel) rfl) is_Int_takeReset sl_Int_takeReset (by decide) (fun av m m' h => by cases h) (fun av m r h => cm_Int_takeReset l h) KT_nd
  · cases (Option.some.inj hq : ((.invokevirtual 128, 41, 3, 1, 0) : Ent) = q)
    exact ab_crV (C := "StreamTransport$Outflow") (by decide +kernel) cw_Otf_raiseOne (ab_gW_in 743 (by decide +kernel) rfl) is_Otf_raiseOne sl_Otf_raiseOne (by decide) (fun av m m' h => by cases h) (fun av m r h => cm_Otf_raiseOne l h) KT_nd
  · cases (Option.some.inj hq : ((.invokevirtual 131, 40, 2, 0, 0) : Ent) = q)
    exact ab_crV (C := "StreamTransport$Outflow") (by decide +kernel) cw_Otf_raiseAll (ab_gW_in 747 (by decide +kernel) rfl) is_Otf_raiseAll sl_Otf_raiseAll (by decide) (fun av m m' h => cm_Otf_raiseAll l h) (fun av m r h => by cases h) KT_nd
theorem cw_End_takeFrame : ab_cw y_End_takeFrame prog_2_method_5_code 2 0 (some .int) := ⟨ab_gW_in 671 (by decide +kernel) rfl, ab_gW_in 63 (by decide +kernel) rfl, by decide +kernel, by decide +kernel, by decide +kernel⟩
theorem is_End_takeFrame : Cond.instanceMethod y_End_takeFrame ∈ ab_gW := ab_gW_in 670 (by decide +kernel) rfl
theorem sl_End_takeFrame : Cond.selects "StreamTransport$End" y_End_takeFrame y_End_takeFrame ∈ ab_gW := ab_gW_in 18 (by decide +kernel) rfl
set_option maxRecDepth 100000 in
theorem cm_End_takeFrame (l : Launch) {av : List AV} {m : Mm} {r : Int32 × Mm} (h0 : c_End_takeFrame av m = some r) : ∃ (k q : Nat) (av' : List AV) (ci : Nat) (fs : List (Nat × Nat × Nat × Nat)) (z : vw_C), av = .inr (.inr (k, some q)) :: av' ∧ av'.length = 0 ∧ k ≠ 0 ∧ KT[k]? = some (.inl (ci, fs)) ∧ CL[ci]? = some z ∧ z.1 = "StreamTransport$End" ∧ ab_nos av' ∧ ab_Met l KT CL y_End_takeFrame (Cond.code y_End_takeFrame prog_2_method_5_code 2 (some .int) :: ab_gW) 5 114 none av m (some (.inl r.1)) r.2 := by
  obtain ⟨v0, hav, h⟩ := c_End_takeFrame_inv h0
  rw [r_End_takeFrame_eq] at h
  have hmo : ab_mo m r.2 := ab_kp_mo (kp_End_takeFrame h0)
  subst hav
  exact ⟨_, _, _, _, _, _, rfl, rfl, by decide, rfl, rfl, rfl, (by intro v hv q e; subst e; simp at hv), ab_met (by decide +kernel) KT_0 KT_nd KT_k3 E_End_takeFrame (cl_End_takeFrame l) hmo (Nat.le_of_ble_eq_true rfl) (ab_rI_inv h) (fun v hv => by cases hv; exact ⟨_, rfl⟩)⟩
/-! StreamTransport$End.receive(LStreamTransport$Row;)I -/
def y_End_receive : MethodName := ⟨"StreamTransport$End", "receive", "(LStreamTransport$Row;)I"⟩
def t_End_receive (pc : Nat) : Option Ent :=
  bif Nat.blt pc 64 then
    (bif Nat.blt pc 31 then
      (bif Nat.blt pc 14 then
        (bif Nat.blt pc 8 then
          (bif Nat.blt pc 4 then
            (bif Nat.blt pc 1 then
              (bif Nat.beq pc 0 then some (.aload_n 0, 0, 0, 0, 0) else none)
            else
              bif Nat.beq pc 1 then some (.invokevirtual 61, 67, 1, 1, 0) else none)
          else
            bif Nat.blt pc 7 then
              (bif Nat.beq pc 4 then some (.ifCond .ne (5), 9, 0, 0, 0) else none)
            else
              bif Nat.beq pc 7 then some (.iconst 2, 0, 0, 0, 2) else none)
        else
          bif Nat.blt pc 10 then
            (bif Nat.blt pc 9 then
              (bif Nat.beq pc 8 then some (.ireturn, 0, 0, 0, 0) else none)
            else
              bif Nat.beq pc 9 then some (.aload_n 1, 1, 0, 0, 0) else none)
          else
            bif Nat.blt pc 11 then
              (bif Nat.beq pc 10 then some (.aload_n 0, 0, 0, 0, 0) else none)
            else
              bif Nat.beq pc 11 then some (.getfield 12, 0, 3, 1, 0) else none)
      else
        bif Nat.blt pc 22 then
          (bif Nat.blt pc 18 then
            (bif Nat.blt pc 17 then
              (bif Nat.beq pc 14 then some (.getfield 65, 3, 1, 0, 0) else none)
            else
              bif Nat.beq pc 17 then some (.iconst 1, 0, 0, 0, 1) else none)
          else
            bif Nat.blt pc 19 then
              (bif Nat.beq pc 18 then some (.iadd, 0, 0, 0, 0) else none)
            else
              bif Nat.beq pc 19 then some (.invokevirtual 68, 14, 2, 1, 0) else none)
        else
          bif Nat.blt pc 24 then
            (bif Nat.blt pc 23 then
              (bif Nat.beq pc 22 then some (.istore_n 2, 2, 0, 0, 0) else none)
            else
              bif Nat.beq pc 23 then some (.aload_n 0, 0, 0, 0, 0) else none)
          else
            bif Nat.blt pc 27 then
              (bif Nat.beq pc 24 then some (.getfield 12, 0, 3, 1, 0) else none)
            else
              bif Nat.blt pc 28 then
                (bif Nat.beq pc 27 then some (.iload_n 2, 2, 0, 0, 0) else none)
              else
                bif Nat.beq pc 28 then some (.invokevirtual 74, 16, 2, 1, 0) else none)
    else
      bif Nat.blt pc 47 then
        (bif Nat.blt pc 39 then
          (bif Nat.blt pc 35 then
            (bif Nat.blt pc 34 then
              (bif Nat.beq pc 31 then some (.ifCond .eq (22), 53, 0, 0, 0) else none)
            else
              bif Nat.beq pc 34 then some (.aload_n 0, 0, 0, 0, 0) else none)
          else
            bif Nat.blt pc 38 then
              (bif Nat.beq pc 35 then some (.getfield 12, 0, 3, 1, 0) else none)
            else
              bif Nat.beq pc 38 then some (.iload_n 2, 2, 0, 0, 0) else none)
        else
          bif Nat.blt pc 45 then
            (bif Nat.blt pc 42 then
              (bif Nat.beq pc 39 then some (.invokevirtual 78, 15, 2, 1, 0) else none)
            else
              bif Nat.beq pc 42 then some (.ifCond .ne (11), 53, 0, 0, 0) else none)
          else
            bif Nat.blt pc 46 then
              (bif Nat.beq pc 45 then some (.aload_n 1, 1, 0, 0, 0) else none)
            else
              bif Nat.beq pc 46 then some (.iload_n 2, 2, 0, 0, 0) else none)
      else
        bif Nat.blt pc 55 then
          (bif Nat.blt pc 53 then
            (bif Nat.blt pc 50 then
              (bif Nat.beq pc 47 then some (.invokevirtual 81, 13, 2, 1, 0) else none)
            else
              bif Nat.beq pc 50 then some (.ifCond .ne (5), 55, 0, 0, 0) else none)
          else
            bif Nat.blt pc 54 then
              (bif Nat.beq pc 53 then some (.iconst 1, 0, 0, 0, 1) else none)
            else
              bif Nat.beq pc 54 then some (.ireturn, 0, 0, 0, 0) else none)
        else
          bif Nat.blt pc 59 then
            (bif Nat.blt pc 56 then
              (bif Nat.beq pc 55 then some (.aload_n 0, 0, 0, 0, 0) else none)
            else
              bif Nat.beq pc 56 then some (.getfield 12, 0, 3, 1, 0) else none)
          else
            bif Nat.blt pc 60 then
              (bif Nat.beq pc 59 then some (.iload_n 2, 2, 0, 0, 0) else none)
            else
              bif Nat.blt pc 63 then
                (bif Nat.beq pc 60 then some (.invokevirtual 84, 17, 2, 0, 0) else none)
              else
                bif Nat.beq pc 63 then some (.aload_n 0, 0, 0, 0, 0) else none)
  else
    bif Nat.blt pc 100 then
      (bif Nat.blt pc 79 then
        (bif Nat.blt pc 72 then
          (bif Nat.blt pc 68 then
            (bif Nat.blt pc 67 then
              (bif Nat.beq pc 64 then some (.getfield 21, 0, 4, 1, 0) else none)
            else
              bif Nat.beq pc 67 then some (.aload_n 1, 1, 0, 0, 0) else none)
          else
            bif Nat.blt pc 71 then
              (bif Nat.beq pc 68 then some (.invokevirtual 88, 21, 2, 0, 0) else none)
            else
              bif Nat.beq pc 71 then some (.iconst 0, 0, 0, 0, 0) else none)
        else
          bif Nat.blt pc 74 then
            (bif Nat.blt pc 73 then
              (bif Nat.beq pc 72 then some (.istore_n 3, 3, 0, 0, 0) else none)
            else
              bif Nat.beq pc 73 then some (.iload_n 3, 3, 0, 0, 0) else none)
          else
            bif Nat.blt pc 76 then
              (bif Nat.beq pc 74 then some (.bipush 40, 0, 0, 0, 40) else none)
            else
              bif Nat.beq pc 76 then some (.if_icmp .ge (58), 134, 0, 0, 0) else none)
      else
        bif Nat.blt pc 87 then
          (bif Nat.blt pc 83 then
            (bif Nat.blt pc 80 then
              (bif Nat.beq pc 79 then some (.aload_n 0, 0, 0, 0, 0) else none)
            else
              bif Nat.beq pc 80 then some (.invokevirtual 61, 67, 1, 1, 0) else none)
          else
            bif Nat.blt pc 86 then
              (bif Nat.beq pc 83 then some (.ifCond .eq (51), 134, 0, 0, 0) else none)
            else
              bif Nat.beq pc 86 then some (.aload_n 0, 0, 0, 0, 0) else none)
        else
          bif Nat.blt pc 93 then
            (bif Nat.blt pc 90 then
              (bif Nat.beq pc 87 then some (.getfield 21, 0, 4, 1, 0) else none)
            else
              bif Nat.beq pc 90 then some (.invokevirtual 92, 22, 1, 1, 0) else none)
          else
            bif Nat.blt pc 96 then
              (bif Nat.beq pc 93 then some (.ifCond .eq (41), 134, 0, 0, 0) else none)
            else
              bif Nat.blt pc 97 then
                (bif Nat.beq pc 96 then some (.aload_n 0, 0, 0, 0, 0) else none)
              else
                bif Nat.beq pc 97 then some (.getfield 21, 0, 4, 1, 0) else none)
    else
      bif Nat.blt pc 118 then
        (bif Nat.blt pc 110 then
          (bif Nat.blt pc 106 then
            (bif Nat.blt pc 103 then
              (bif Nat.beq pc 100 then some (.invokevirtual 95, 28, 1, 1, 0) else none)
            else
              bif Nat.beq pc 103 then some (.ifCond .eq (10), 113, 0, 0, 0) else none)
          else
            bif Nat.blt pc 107 then
              (bif Nat.beq pc 106 then some (.aload_n 0, 0, 0, 0, 0) else none)
            else
              bif Nat.beq pc 107 then some (.invokevirtual 98, 76, 1, 1, 0) else none)
        else
          bif Nat.blt pc 114 then
            (bif Nat.blt pc 113 then
              (bif Nat.beq pc 110 then some (.goto 4, 114, 0, 0, 0) else none)
            else
              bif Nat.beq pc 113 then some (.iconst 1, 0, 0, 0, 1) else none)
          else
            bif Nat.blt pc 116 then
              (bif Nat.beq pc 114 then some (.istore 4, 4, 0, 0, 0) else none)
            else
              bif Nat.beq pc 116 then some (.iload 4, 4, 0, 0, 0) else none)
      else
        bif Nat.blt pc 125 then
          (bif Nat.blt pc 122 then
            (bif Nat.blt pc 121 then
              (bif Nat.beq pc 118 then some (.ifCond .eq (10), 128, 0, 0, 0) else none)
            else
              bif Nat.beq pc 121 then some (.aload_n 0, 0, 0, 0, 0) else none)
          else
            bif Nat.blt pc 124 then
              (bif Nat.beq pc 122 then some (.iload 4, 4, 0, 0, 0) else none)
            else
              bif Nat.beq pc 124 then some (.iconst 1, 0, 0, 0, 1) else none)
        else
          bif Nat.blt pc 131 then
            (bif Nat.blt pc 128 then
              (bif Nat.beq pc 125 then some (.invokevirtual 102, 68, 3, 0, 0) else none)
            else
              bif Nat.beq pc 128 then some (.iinc 3 1, 3, 0, 0, 1) else none)
          else
            bif Nat.blt pc 134 then
              (bif Nat.beq pc 131 then some (.goto (-58), 73, 0, 0, 0) else none)
            else
              bif Nat.blt pc 135 then
                (bif Nat.beq pc 134 then some (.iconst 0, 0, 0, 0, 0) else none)
              else
                bif Nat.beq pc 135 then some (.ireturn, 0, 0, 0, 0) else none
def i_End_receive : Nat → Option Ent := ab_tab 136 t_End_receive
def h_End_receive (pc : Nat) : Nat × List Bool := bif Nat.beq pc 73 then (1, [true, false, false, true, false]) else bif Nat.beq pc 114 then (1, [true, false, false, true, false]) else bif Nat.beq pc 128 then (1, [true, false, false, true, false]) else (0, [])
def s_End_receive (pc : Nat) : List (Int32 × Nat) × Nat := ([], 0)
noncomputable def eV_End_receive : Nat → List AV → Mm → Option Mm := ab_ev [(17, c_Num_add), (21, c_Rdr_begin), (68, c_End_shut)]
noncomputable def eI_End_receive : Nat → List AV → Mm → Option (Int32 × Mm) := ab_ev [(67, c_End_isOpen), (14, c_Row_fullNumber), (16, c_Num_canHold), (15, c_Num_has), (13, c_Row_isSealedFor), (22, c_Rdr_hasMore), (28, c_Rdr_step), (76, c_End_takeFrame)]
noncomputable def b_End_receive_0 (f : Nat) (v0 : Nat) (v1 : Nat) (m : Mm) : Option Rs := ab_ex KT none s_End_receive eV_End_receive eI_End_receive i_End_receive h_End_receive f 0 [some (.inr (.inr (7, some v0))), some (.inr (.inr (4, some v1))), none, none, none] [] m
noncomputable def b_End_receive_73 (f : Nat) (v0 : Nat) (v3 : Int32) (m : Mm) : Option Rs := ab_ex KT none s_End_receive eV_End_receive eI_End_receive i_End_receive h_End_receive f 73 [some (.inr (.inr (7, some v0))), none, none, some (.inl v3), none] [] m
noncomputable def b_End_receive_114 (f : Nat) (v0 : Nat) (v3 : Int32) (u0 : Int32) (m : Mm) : Option Rs := ab_ex KT none s_End_receive eV_End_receive eI_End_receive i_End_receive h_End_receive f 114 [some (.inr (.inr (7, some v0))), none, none, some (.inl v3), none] [.inl u0] m
noncomputable def b_End_receive_128 (f : Nat) (v0 : Nat) (v3 : Int32) (m : Mm) : Option Rs := ab_ex KT none s_End_receive eV_End_receive eI_End_receive i_End_receive h_End_receive f 128 [some (.inr (.inr (7, some v0))), none, none, some (.inl v3), none] [] m
set_option maxRecDepth 100000 in
set_option maxHeartbeats 4000000 in
theorem b_End_receive_0_eq (f : Nat) (v0 : Nat) (v1 : Nat) (m : Mm) : b_End_receive_0 (f + 1) v0 v1 m =
    (r_End_isOpen v0 m).bind fun z1 =>
    if z1.1 = 0 then
      some (.inl (some (.inl (2 : Int32)), z1.2))
    else
      (r_Row_fullNumber v1 ((z1.2.1 30 (v0 + 1) 0) + (1 : Int32)) z1.2).bind fun z2 =>
      (r_Num_canHold (v0 + 1) z2.1 z2.2).bind fun z3 =>
      if z3.1 = 0 then
        some (.inl (some (.inl (1 : Int32)), z3.2))
      else
        (r_Num_has (v0 + 1) z2.1 z3.2).bind fun z4 =>
        if z4.1 = 0 then
          (r_Row_isSealedFor v1 z2.1 z4.2).bind fun z5 =>
          if z5.1 = 0 then
            some (.inl (some (.inl (1 : Int32)), z5.2))
          else
            (r_Num_add (v0 + 1) z2.1 z5.2).bind fun m6 =>
            (r_Rdr_begin (v0 + 3) v1 m6).bind fun m7 =>
            b_End_receive_73 f v0 (0 : Int32) m7
        else
          some (.inl (some (.inl (1 : Int32)), z4.2)) := rfl
set_option maxRecDepth 100000 in
set_option maxHeartbeats 4000000 in
theorem b_End_receive_73_eq (f : Nat) (v0 : Nat) (v3 : Int32) (m : Mm) : b_End_receive_73 (f + 1) v0 v3 m =
    if (40 : Int32) ≤ v3 then
      some (.inl (some (.inl (0 : Int32)), m))
    else
      (r_End_isOpen v0 m).bind fun z1 =>
      if z1.1 = 0 then
        some (.inl (some (.inl (0 : Int32)), z1.2))
      else
        (r_Rdr_hasMore (v0 + 3) z1.2).bind fun z2 =>
        if z2.1 = 0 then
          some (.inl (some (.inl (0 : Int32)), z2.2))
        else
          (r_Rdr_step (v0 + 3) z2.2).bind fun z3 =>
          if z3.1 = 0 then
            b_End_receive_114 f v0 v3 (1 : Int32) z3.2
          else
            (r_End_takeFrame v0 z3.2).bind fun z4 =>
            b_End_receive_114 f v0 v3 z4.1 z4.2 := rfl
set_option maxRecDepth 100000 in
set_option maxHeartbeats 4000000 in
theorem b_End_receive_114_eq (f : Nat) (v0 : Nat) (v3 : Int32) (u0 : Int32) (m : Mm) : b_End_receive_114 (f + 1) v0 v3 u0 m =
    if u0 = 0 then
      b_End_receive_128 f v0 v3 m
    else
      (r_End_shut v0 u0 (1 : Int32) m).bind fun m1 =>
      b_End_receive_128 f v0 v3 m1 := rfl
set_option maxRecDepth 100000 in
set_option maxHeartbeats 4000000 in
theorem b_End_receive_128_eq (f : Nat) (v0 : Nat) (v3 : Int32) (m : Mm) : b_End_receive_128 (f + 1) v0 v3 m =
    ab_let (v3 + (1 : Int32)) fun x1 =>
    b_End_receive_73 f v0 x1 m := rfl
noncomputable def r_End_receive : Nat → Nat → Mm → Option (Int32 × Mm) := ab_seal fun v0 v1 m => ab_rI (b_End_receive_0 50000 v0 v1 m)
theorem r_End_receive_eq (v0 : Nat) (v1 : Nat) (m : Mm) : r_End_receive v0 v1 m = ab_rI (b_End_receive_0 50000 v0 v1 m) := by
  unfold r_End_receive
  rw [ab_seal_eq]
noncomputable def c_End_receive : List AV → Mm → Option (Int32 × Mm) := fun av m => match av with
  | [.inr (.inr (kv0, ov0)), .inr (.inr (kv1, ov1))] => if kv0 = 7 then (if kv1 = 4 then (ov0.bind fun v0 => ov1.bind fun v1 => r_End_receive v0 v1 m) else none) else none
  | _ => none
theorem c_End_receive_inv {av : List AV} {m : Mm} {r : Int32 × Mm} (h : c_End_receive av m = some r) : ∃ (v0 : Nat) (v1 : Nat), av = [.inr (.inr (7, some v0)), .inr (.inr (4, some v1))] ∧ r_End_receive v0 v1 m = some r := by
  unfold c_End_receive at h
  split at h
  · rename_i kv0 ov0 kv1 ov1
    by_cases hkv0 : kv0 = 7
    case neg => rw [if_neg hkv0] at h; cases h
    rw [if_pos hkv0] at h
    subst hkv0
    by_cases hkv1 : kv1 = 4
    case neg => rw [if_neg hkv1] at h; cases h
    rw [if_pos hkv1] at h
    subst hkv1
    obtain ⟨v0, hev0, h⟩ := Option.bind_eq_some_iff.mp h
    obtain ⟨v1, hev1, h⟩ := Option.bind_eq_some_iff.mp h
    subst hev0
    subst hev1
    exact ⟨v0, v1, rfl, h⟩
  · cases h
def cs_End_receive : List Nat := [1, 19, 28, 39, 47, 60, 68, 80, 90, 100, 107, 125]
set_option maxRecDepth 100000 in
theorem E_End_receive : ∀ (pc : Nat) (q : Ent), i_End_receive pc = some q → ab_E KT CL ab_gW "StreamTransport$End" "receive" (some .int) prog_2_method_4_code s_End_receive 5 pc q.1 q.2.1 q.2.2.1 q.2.2.2.1 q.2.2.2.2 := fun pc q hq =>
  ab_Eb_ok lc_End lj_End fl_End (fpn_End "receive") nw_End na_End nq_End (ab_tab_all (t := t_End_receive) (chk := fun pc q => ab_Eb (some .int) prog_2_method_4_code s_End_receive 5 LC_End LJ_End FL_End FPn_End NW_End NA_End NQ_End pc q.1 q.2.1 q.2.2.1 q.2.2.2.1 q.2.2.2.2) (by decide +kernel) hq)
set_option maxRecDepth 100000 in
theorem kp_End_receive {av : List AV} {m : Mm} {r : Int32 × Mm} (h : c_End_receive av m = some r) : ab_kp m r.2 := by
  obtain ⟨v0, v1, -, h⟩ := c_End_receive_inv h
  rw [r_End_receive_eq] at h
  have hV : ∀ a av m m', eV_End_receive a av m = some m' → ab_kp m m' := ab_ev_all (P := fun _ m r => ab_kp m r) [(17, c_Num_add), (21, c_Rdr_begin), (68, c_End_shut)] (List.forall_mem_cons.mpr ⟨fun av m r h => kp_Num_add h, List.forall_mem_cons.mpr ⟨fun av m r h => kp_Rdr_begin h, List.forall_mem_cons.mpr ⟨fun av m r h => kp_End_shut h, fun q hq => by cases hq⟩⟩⟩)
  have hI : ∀ a av m q, eI_End_receive a av m = some q → ab_kp m q.2 := ab_ev_all (P := fun _ (m : Mm) (r : Int32 × Mm) => ab_kp m r.2) [(67, c_End_isOpen), (14, c_Row_fullNumber), (16, c_Num_canHold), (15, c_Num_has), (13, c_Row_isSealedFor), (22, c_Rdr_hasMore), (28, c_Rdr_step), (76, c_End_takeFrame)] (List.forall_mem_cons.mpr ⟨fun av m r h => kp_End_isOpen h, List.forall_mem_cons.mpr ⟨fun av m r h => kp_Row_fullNumber h, List.forall_mem_cons.mpr ⟨fun av m r h => kp_Num_canHold h, List.forall_mem_cons.mpr ⟨fun av m r h => kp_Num_has h, List.forall_mem_cons.mpr ⟨fun av m r h => kp_Row_isSealedFor h, List.forall_mem_cons.mpr ⟨fun av m r h => kp_Rdr_hasMore h, List.forall_mem_cons.mpr ⟨fun av m r h => kp_Rdr_step h, List.forall_mem_cons.mpr ⟨fun av m r h => kp_End_takeFrame h, fun q hq => by cases hq⟩⟩⟩⟩⟩⟩⟩⟩)
  exact ab_kprel (ρ := .inl (some (.inl r.1), r.2)) (ab_tab_isn (t := t_End_receive) (by decide +kernel)) hV hI (ab_rI_inv h)
set_option maxRecDepth 100000 in
theorem cl_End_receive (l : Launch) : ∀ (pc : Nat) (q : Ent), i_End_receive pc = some q → ab_inv q.1 = true → ab_CR l KT CL none ab_gW "StreamTransport$End" prog_2_method_4_code 5 6 135 eV_End_receive eI_End_receive pc q := by
  intro pc q hq hi
  have hm : pc ∈ cs_End_receive := ab_tab_cs (t := t_End_receive) (by decide +kernel) hq hi
  simp only [cs_End_receive, List.mem_cons, List.not_mem_nil, or_false] at hm
  rcases hm with rfl | rfl | rfl | rfl | rfl | rfl | rfl | rfl | rfl | rfl | rfl | rfl
  · cases (Option.some.inj hq : ((.invokevirtual 61, 67, 1, 1, 0) : Ent) = q)
    exact ab_crV (C := "StreamTransport$End") (by decide +kernel) cw_End_isOpen (ab_gW_in 401 (by decide +kernel) rfl) is_End_isOpen sl_End_isOpen (by decide) (fun av m m' h => by cases h) (fun av m r h => cm_End_isOpen l h) KT_nd
  · cases (Option.some.inj hq : ((.invokevirtual 68, 14, 2, 1, 0) : Ent) = q)
    exact ab_crV (C := "StreamTransport$Row") (by decide +kernel) cw_Row_fullNumber (ab_gW_in 614 (by decide +kernel) rfl) is_Row_fullNumber sl_Row_fullNumber (by decide) (fun av m m' h => by cases h) (fun av m r h => cm_Row_fullNumber l h) KT_nd
  · cases (Option.some.inj hq : ((.invokevirtual 74, 16, 2, 1, 0) : Ent) = q)
    exact ab_crV (C := "StreamTransport$Numbers") (by decide +kernel) cw_Num_canHold (ab_gW_in 621 (by decide +kernel) rfl) is_Num_canHold sl_Num_canHold (by decide) (fun av m m' h => by cases h) (fun av m r h => cm_Num_canHold l h) KT_nd
  · cases (Option.some.inj hq : ((.invokevirtual 78, 15, 2, 1, 0) : Ent) = q)
    exact ab_crV (C := "StreamTransport$Numbers") (by decide +kernel) cw_Num_has (ab_gW_in 625 (by decide +kernel) rfl) is_Num_has sl_Num_has (by decide) (fun av m m' h => by cases h) (fun av m r h => cm_Num_has l h) KT_nd
  · cases (Option.some.inj hq : ((.invokevirtual 81, 13, 2, 1, 0) : Ent) = q)
    exact ab_crV (C := "StreamTransport$Row") (by decide +kernel) cw_Row_isSealedFor (ab_gW_in 626 (by decide +kernel) rfl) is_Row_isSealedFor sl_Row_isSealedFor (by decide) (fun av m m' h => by cases h) (fun av m r h => cm_Row_isSealedFor l h) KT_nd
  · cases (Option.some.inj hq : ((.invokevirtual 84, 17, 2, 0, 0) : Ent) = q)
    exact ab_crV (C := "StreamTransport$Numbers") (by decide +kernel) cw_Num_add (ab_gW_in 630 (by decide +kernel) rfl) is_Num_add sl_Num_add (by decide) (fun av m m' h => cm_Num_add l h) (fun av m r h => by cases h) KT_nd
  · cases (Option.some.inj hq : ((.invokevirtual 88, 21, 2, 0, 0) : Ent) = q)
    exact ab_crV (C := "StreamTransport$Reader") (by decide +kernel) cw_Rdr_begin (ab_gW_in 636 (by decide +kernel) rfl) is_Rdr_begin sl_Rdr_begin (by decide) (fun av m m' h => cm_Rdr_begin l h) (fun av m r h => by cases h) KT_nd
  · cases (Option.some.inj hq : ((.invokevirtual 61, 67, 1, 1, 0) : Ent) = q)
    exact ab_crV (C := "StreamTransport$End") (by decide +kernel) cw_End_isOpen (ab_gW_in 401 (by decide +kernel) rfl) is_End_isOpen sl_End_isOpen (by decide) (fun av m m' h => by cases h) (fun av m r h => cm_End_isOpen l h) KT_nd
  · cases (Option.some.inj hq : ((.invokevirtual 92, 22, 1, 1, 0) : Ent) = q)
    exact ab_crV (C := "StreamTransport$Reader") (by decide +kernel) cw_Rdr_hasMore (ab_gW_in 640 (by decide +kernel) rfl) is_Rdr_hasMore sl_Rdr_hasMore (by decide) (fun av m m' h => by cases h) (fun av m r h => cm_Rdr_hasMore l h) KT_nd
  · cases (Option.some.inj hq : ((.invokevirtual 95, 28, 1, 1, 0) : Ent) = q)
    exact ab_crV (C := "StreamTransport$Reader") (by decide +kernel) cw_Rdr_step (ab_gW_in 644 (by decide +kernel) rfl) is_Rdr_step sl_Rdr_step (by decide) (fun av m m' h => by cases h) (fun av m r h => cm_Rdr_step l h) KT_nd
  · cases (Option.some.inj hq : ((.invokevirtual 98, 76, 1, 1, 0) : Ent) = q)
    exact ab_crV (C := "StreamTransport$End") (by decide +kernel) cw_End_takeFrame (ab_gW_in 668 (by decide +kernel) rfl) is_End_takeFrame sl_End_takeFrame (by decide) (fun av m m' h => by cases h) (fun av m r h => cm_End_takeFrame l h) KT_nd
  · cases (Option.some.inj hq : ((.invokevirtual 102, 68, 3, 0, 0) : Ent) = q)
    exact ab_crV (C := "StreamTransport$End") (by decide +kernel) cw_End_shut (ab_gW_in 701 (by decide +kernel) rfl) is_End_shut sl_End_shut (by decide) (fun av m m' h => cm_End_shut l h) (fun av m r h => by cases h) KT_nd
theorem cw_End_receive : ab_cw y_End_receive prog_2_method_4_code 5 1 (some .int) := ⟨ab_gW_in 613 (by decide +kernel) rfl, ab_gW_in 63 (by decide +kernel) rfl, by decide +kernel, by decide +kernel, by decide +kernel⟩
theorem is_End_receive : Cond.instanceMethod y_End_receive ∈ ab_gW := ab_gW_in 611 (by decide +kernel) rfl
theorem sl_End_receive : Cond.selects "StreamTransport$End" y_End_receive y_End_receive ∈ ab_gW := ab_gW_in 612 (by decide +kernel) rfl
set_option maxRecDepth 100000 in
theorem cm_End_receive (l : Launch) {av : List AV} {m : Mm} {r : Int32 × Mm} (h0 : c_End_receive av m = some r) : ∃ (k q : Nat) (av' : List AV) (ci : Nat) (fs : List (Nat × Nat × Nat × Nat)) (z : vw_C), av = .inr (.inr (k, some q)) :: av' ∧ av'.length = 1 ∧ k ≠ 0 ∧ KT[k]? = some (.inl (ci, fs)) ∧ CL[ci]? = some z ∧ z.1 = "StreamTransport$End" ∧ ab_nos av' ∧ ab_Met l KT CL y_End_receive (Cond.code y_End_receive prog_2_method_4_code 5 (some .int) :: ab_gW) 6 135 none av m (some (.inl r.1)) r.2 := by
  obtain ⟨v0, v1, hav, h⟩ := c_End_receive_inv h0
  rw [r_End_receive_eq] at h
  have hmo : ab_mo m r.2 := ab_kp_mo (kp_End_receive h0)
  subst hav
  exact ⟨_, _, _, _, _, _, rfl, rfl, by decide, rfl, rfl, rfl, (by intro v hv q e; subst e; simp at hv), ab_met (by decide +kernel) KT_0 KT_nd KT_k3 E_End_receive (cl_End_receive l) hmo (Nat.le_of_ble_eq_true rfl) (ab_rI_inv h) (fun v hv => by cases hv; exact ⟨_, rfl⟩)⟩
/-! StreamTransport$End.countOnWay()I -/
def y_End_countOnWay : MethodName := ⟨"StreamTransport$End", "countOnWay", "()I"⟩
def t_End_countOnWay (pc : Nat) : Option Ent :=
  bif Nat.blt pc 12 then
    (bif Nat.blt pc 4 then
      (bif Nat.blt pc 2 then
        (bif Nat.blt pc 1 then
          (bif Nat.beq pc 0 then some (.iconst 0, 0, 0, 0, 0) else none)
        else
          bif Nat.beq pc 1 then some (.istore_n 1, 1, 0, 0, 0) else none)
      else
        bif Nat.blt pc 3 then
          (bif Nat.beq pc 2 then some (.iconst 0, 0, 0, 0, 0) else none)
        else
          bif Nat.beq pc 3 then some (.istore_n 2, 2, 0, 0, 0) else none)
    else
      bif Nat.blt pc 6 then
        (bif Nat.blt pc 5 then
          (bif Nat.beq pc 4 then some (.iload_n 2, 2, 0, 0, 0) else none)
        else
          bif Nat.beq pc 5 then some (.aload_n 0, 0, 0, 0, 0) else none)
      else
        bif Nat.blt pc 9 then
          (bif Nat.beq pc 6 then some (.getfield 144, 0, 6, 0, 0) else none)
        else
          bif Nat.beq pc 9 then some (.if_icmp .ge (20), 29, 0, 0, 0) else none)
  else
    bif Nat.blt pc 20 then
      (bif Nat.blt pc 14 then
        (bif Nat.blt pc 13 then
          (bif Nat.beq pc 12 then some (.aload_n 0, 0, 0, 0, 0) else none)
        else
          bif Nat.beq pc 13 then some (.iload_n 2, 2, 0, 0, 0) else none)
      else
        bif Nat.blt pc 17 then
          (bif Nat.beq pc 14 then some (.invokevirtual 175, 70, 2, 1, 0) else none)
        else
          bif Nat.beq pc 17 then some (.ifCond .eq (6), 23, 0, 0, 0) else none)
    else
      bif Nat.blt pc 26 then
        (bif Nat.blt pc 23 then
          (bif Nat.beq pc 20 then some (.iinc 1 1, 1, 0, 0, 1) else none)
        else
          bif Nat.beq pc 23 then some (.iinc 2 1, 2, 0, 0, 1) else none)
      else
        bif Nat.blt pc 29 then
          (bif Nat.beq pc 26 then some (.goto (-22), 4, 0, 0, 0) else none)
        else
          bif Nat.blt pc 30 then
            (bif Nat.beq pc 29 then some (.iload_n 1, 1, 0, 0, 0) else none)
          else
            bif Nat.beq pc 30 then some (.ireturn, 0, 0, 0, 0) else none
def i_End_countOnWay : Nat → Option Ent := ab_tab 31 t_End_countOnWay
def h_End_countOnWay (pc : Nat) : Nat × List Bool := bif Nat.beq pc 4 then (1, [true, true, true]) else bif Nat.beq pc 23 then (1, [true, true, true]) else (0, [])
def s_End_countOnWay (pc : Nat) : List (Int32 × Nat) × Nat := ([], 0)
noncomputable def eV_End_countOnWay : Nat → List AV → Mm → Option Mm := ab_ev []
noncomputable def eI_End_countOnWay : Nat → List AV → Mm → Option (Int32 × Mm) := ab_ev [(70, c_End_isTimed)]
noncomputable def b_End_countOnWay_0 (f : Nat) (v0 : Nat) (m : Mm) : Option Rs := ab_ex KT none s_End_countOnWay eV_End_countOnWay eI_End_countOnWay i_End_countOnWay h_End_countOnWay f 0 [some (.inr (.inr (7, some v0))), none, none] [] m
noncomputable def b_End_countOnWay_4 (f : Nat) (v0 : Nat) (v1 : Int32) (v2 : Int32) (m : Mm) : Option Rs := ab_ex KT none s_End_countOnWay eV_End_countOnWay eI_End_countOnWay i_End_countOnWay h_End_countOnWay f 4 [some (.inr (.inr (7, some v0))), some (.inl v1), some (.inl v2)] [] m
noncomputable def b_End_countOnWay_23 (f : Nat) (v0 : Nat) (v1 : Int32) (v2 : Int32) (m : Mm) : Option Rs := ab_ex KT none s_End_countOnWay eV_End_countOnWay eI_End_countOnWay i_End_countOnWay h_End_countOnWay f 23 [some (.inr (.inr (7, some v0))), some (.inl v1), some (.inl v2)] [] m
set_option maxRecDepth 100000 in
set_option maxHeartbeats 4000000 in
theorem b_End_countOnWay_0_eq (f : Nat) (v0 : Nat) (m : Mm) : b_End_countOnWay_0 (f + 1) v0 m =
    b_End_countOnWay_4 f v0 (0 : Int32) (0 : Int32) m := rfl
set_option maxRecDepth 100000 in
set_option maxHeartbeats 4000000 in
theorem b_End_countOnWay_4_eq (f : Nat) (v0 : Nat) (v1 : Int32) (v2 : Int32) (m : Mm) : b_End_countOnWay_4 (f + 1) v0 v1 v2 m =
    if (m.1 21 v0 0) ≤ v2 then
      some (.inl (some (.inl v1), m))
    else
      (r_End_isTimed v0 v2 m).bind fun z1 =>
      if z1.1 = 0 then
        b_End_countOnWay_23 f v0 v1 v2 z1.2
      else
        ab_let (v1 + (1 : Int32)) fun x2 =>
        b_End_countOnWay_23 f v0 x2 v2 z1.2 := rfl
set_option maxRecDepth 100000 in
set_option maxHeartbeats 4000000 in
theorem b_End_countOnWay_23_eq (f : Nat) (v0 : Nat) (v1 : Int32) (v2 : Int32) (m : Mm) : b_End_countOnWay_23 (f + 1) v0 v1 v2 m =
    ab_let (v2 + (1 : Int32)) fun x1 =>
    b_End_countOnWay_4 f v0 v1 x1 m := rfl
noncomputable def r_End_countOnWay : Nat → Mm → Option (Int32 × Mm) := ab_seal fun v0 m => ab_rI (b_End_countOnWay_0 50000 v0 m)
theorem r_End_countOnWay_eq (v0 : Nat) (m : Mm) : r_End_countOnWay v0 m = ab_rI (b_End_countOnWay_0 50000 v0 m) := by
  unfold r_End_countOnWay
  rw [ab_seal_eq]
noncomputable def c_End_countOnWay : List AV → Mm → Option (Int32 × Mm) := fun av m => match av with
  | [.inr (.inr (kv0, ov0))] => if kv0 = 7 then (ov0.bind fun v0 => r_End_countOnWay v0 m) else none
  | _ => none
theorem c_End_countOnWay_inv {av : List AV} {m : Mm} {r : Int32 × Mm} (h : c_End_countOnWay av m = some r) : ∃ (v0 : Nat), av = [.inr (.inr (7, some v0))] ∧ r_End_countOnWay v0 m = some r := by
  unfold c_End_countOnWay at h
  split at h
  · rename_i kv0 ov0
    by_cases hkv0 : kv0 = 7
    case neg => rw [if_neg hkv0] at h; cases h
    rw [if_pos hkv0] at h
    subst hkv0
    obtain ⟨v0, hev0, h⟩ := Option.bind_eq_some_iff.mp h
    subst hev0
    exact ⟨v0, rfl, h⟩
  · cases h
def cs_End_countOnWay : List Nat := [14]
set_option maxRecDepth 100000 in
theorem E_End_countOnWay : ∀ (pc : Nat) (q : Ent), i_End_countOnWay pc = some q → ab_E KT CL ab_gW "StreamTransport$End" "countOnWay" (some .int) prog_2_method_13_code s_End_countOnWay 3 pc q.1 q.2.1 q.2.2.1 q.2.2.2.1 q.2.2.2.2 := fun pc q hq =>
  ab_Eb_ok lc_End lj_End fl_End (fpn_End "countOnWay") nw_End na_End nq_End (ab_tab_all (t := t_End_countOnWay) (chk := fun pc q => ab_Eb (some .int) prog_2_method_13_code s_End_countOnWay 3 LC_End LJ_End FL_End FPn_End NW_End NA_End NQ_End pc q.1 q.2.1 q.2.2.1 q.2.2.2.1 q.2.2.2.2) (by decide +kernel) hq)
set_option maxRecDepth 100000 in
theorem kp_End_countOnWay {av : List AV} {m : Mm} {r : Int32 × Mm} (h : c_End_countOnWay av m = some r) : ab_kp m r.2 := by
  obtain ⟨v0, -, h⟩ := c_End_countOnWay_inv h
  rw [r_End_countOnWay_eq] at h
  have hV : ∀ a av m m', eV_End_countOnWay a av m = some m' → ab_kp m m' := ab_ev_all (P := fun _ m r => ab_kp m r) [] (fun q hq => by cases hq)
  have hI : ∀ a av m q, eI_End_countOnWay a av m = some q → ab_kp m q.2 := ab_ev_all (P := fun _ (m : Mm) (r : Int32 × Mm) => ab_kp m r.2) [(70, c_End_isTimed)] (List.forall_mem_cons.mpr ⟨fun av m r h => kp_End_isTimed h, fun q hq => by cases hq⟩)
  exact ab_kprel (ρ := .inl (some (.inl r.1), r.2)) (ab_tab_isn (t := t_End_countOnWay) (by decide +kernel)) hV hI (ab_rI_inv h)
set_option maxRecDepth 100000 in
theorem cl_End_countOnWay (l : Launch) : ∀ (pc : Nat) (q : Ent), i_End_countOnWay pc = some q → ab_inv q.1 = true → ab_CR l KT CL none ab_gW "StreamTransport$End" prog_2_method_13_code 3 2 42 eV_End_countOnWay eI_End_countOnWay pc q := by
  intro pc q hq hi
  have hm : pc ∈ cs_End_countOnWay := ab_tab_cs (t := t_End_countOnWay) (by decide +kernel) hq hi
  simp only [cs_End_countOnWay, List.mem_cons, List.not_mem_nil, or_false] at hm
  rcases hm with rfl
  · cases (Option.some.inj hq : ((.invokevirtual 175, 70, 2, 1, 0) : Ent) = q)
    exact ab_crV (C := "StreamTransport$End") (by decide +kernel) cw_End_isTimed (ab_gW_in 795 (by decide +kernel) rfl) is_End_isTimed sl_End_isTimed (by decide) (fun av m m' h => by cases h) (fun av m r h => cm_End_isTimed l h) KT_nd
theorem cw_End_countOnWay : ab_cw y_End_countOnWay prog_2_method_13_code 3 0 (some .int) := ⟨ab_gW_in 819 (by decide +kernel) rfl, ab_gW_in 63 (by decide +kernel) rfl, by decide +kernel, by decide +kernel, by decide +kernel⟩
theorem is_End_countOnWay : Cond.instanceMethod y_End_countOnWay ∈ ab_gW := ab_gW_in 817 (by decide +kernel) rfl
theorem sl_End_countOnWay : Cond.selects "StreamTransport$End" y_End_countOnWay y_End_countOnWay ∈ ab_gW := ab_gW_in 818 (by decide +kernel) rfl
set_option maxRecDepth 100000 in
theorem cm_End_countOnWay (l : Launch) {av : List AV} {m : Mm} {r : Int32 × Mm} (h0 : c_End_countOnWay av m = some r) : ∃ (k q : Nat) (av' : List AV) (ci : Nat) (fs : List (Nat × Nat × Nat × Nat)) (z : vw_C), av = .inr (.inr (k, some q)) :: av' ∧ av'.length = 0 ∧ k ≠ 0 ∧ KT[k]? = some (.inl (ci, fs)) ∧ CL[ci]? = some z ∧ z.1 = "StreamTransport$End" ∧ ab_nos av' ∧ ab_Met l KT CL y_End_countOnWay (Cond.code y_End_countOnWay prog_2_method_13_code 3 (some .int) :: ab_gW) 2 42 none av m (some (.inl r.1)) r.2 := by
  obtain ⟨v0, hav, h⟩ := c_End_countOnWay_inv h0
  rw [r_End_countOnWay_eq] at h
  have hmo : ab_mo m r.2 := ab_kp_mo (kp_End_countOnWay h0)
  subst hav
  exact ⟨_, _, _, _, _, _, rfl, rfl, by decide, rfl, rfl, rfl, (by intro v hv q e; subst e; simp at hv), ab_met (by decide +kernel) KT_0 KT_nd KT_k3 E_End_countOnWay (cl_End_countOnWay l) hmo (Nat.le_of_ble_eq_true rfl) (ab_rI_inv h) (fun v hv => by cases hv; exact ⟨_, rfl⟩)⟩
/-! StreamTransport$End.passTick(I)V -/
def y_End_passTick : MethodName := ⟨"StreamTransport$End", "passTick", "(I)V"⟩
def t_End_passTick (pc : Nat) : Option Ent :=
  bif Nat.blt pc 42 then
    (bif Nat.blt pc 20 then
      (bif Nat.blt pc 9 then
        (bif Nat.blt pc 4 then
          (bif Nat.blt pc 1 then
            (bif Nat.beq pc 0 then some (.aload_n 0, 0, 0, 0, 0) else none)
          else
            bif Nat.beq pc 1 then some (.invokevirtual 61, 67, 1, 1, 0) else none)
        else
          bif Nat.blt pc 7 then
            (bif Nat.beq pc 4 then some (.ifCond .eq (19), 23, 0, 0, 0) else none)
          else
            bif Nat.blt pc 8 then
              (bif Nat.beq pc 7 then some (.iload_n 1, 1, 0, 0, 0) else none)
            else
              bif Nat.beq pc 8 then some (.aload_n 0, 0, 0, 0, 0) else none)
      else
        bif Nat.blt pc 15 then
          (bif Nat.blt pc 12 then
            (bif Nat.beq pc 9 then some (.getfield 178, 0, 10, 0, 0) else none)
          else
            bif Nat.blt pc 13 then
              (bif Nat.beq pc 12 then some (.isub, 0, 0, 0, 0) else none)
            else
              bif Nat.beq pc 13 then some (.bipush 6, 0, 0, 0, 6) else none)
        else
          bif Nat.blt pc 16 then
            (bif Nat.beq pc 15 then some (.aload_n 0, 0, 0, 0, 0) else none)
          else
            bif Nat.blt pc 19 then
              (bif Nat.beq pc 16 then some (.getfield 162, 0, 8, 0, 0) else none)
            else
              bif Nat.beq pc 19 then some (.ishl, 0, 0, 0, 0) else none)
    else
      bif Nat.blt pc 28 then
        (bif Nat.blt pc 25 then
          (bif Nat.blt pc 23 then
            (bif Nat.beq pc 20 then some (.if_icmp .ge (4), 24, 0, 0, 0) else none)
          else
            bif Nat.blt pc 24 then
              (bif Nat.beq pc 23 then some (.return_, 0, 0, 0, 0) else none)
            else
              bif Nat.beq pc 24 then some (.iconst 0, 0, 0, 0, 0) else none)
        else
          bif Nat.blt pc 26 then
            (bif Nat.beq pc 25 then some (.istore_n 2, 2, 0, 0, 0) else none)
          else
            bif Nat.blt pc 27 then
              (bif Nat.beq pc 26 then some (.iload_n 2, 2, 0, 0, 0) else none)
            else
              bif Nat.beq pc 27 then some (.aload_n 0, 0, 0, 0, 0) else none)
      else
        bif Nat.blt pc 35 then
          (bif Nat.blt pc 31 then
            (bif Nat.beq pc 28 then some (.getfield 144, 0, 6, 0, 0) else none)
          else
            bif Nat.blt pc 34 then
              (bif Nat.beq pc 31 then some (.if_icmp .ge (52), 83, 0, 0, 0) else none)
            else
              bif Nat.beq pc 34 then some (.aload_n 0, 0, 0, 0, 0) else none)
        else
          bif Nat.blt pc 36 then
            (bif Nat.beq pc 35 then some (.iload_n 2, 2, 0, 0, 0) else none)
          else
            bif Nat.blt pc 39 then
              (bif Nat.beq pc 36 then some (.invokevirtual 175, 70, 2, 1, 0) else none)
            else
              bif Nat.beq pc 39 then some (.ifCond .eq (38), 77, 0, 0, 0) else none)
  else
    bif Nat.blt pc 62 then
      (bif Nat.blt pc 52 then
        (bif Nat.blt pc 47 then
          (bif Nat.blt pc 43 then
            (bif Nat.beq pc 42 then some (.aload_n 0, 0, 0, 0, 0) else none)
          else
            bif Nat.blt pc 44 then
              (bif Nat.beq pc 43 then some (.aload_n 0, 0, 0, 0, 0) else none)
            else
              bif Nat.beq pc 44 then some (.getfield 27, 0, 5, 1, 0) else none)
        else
          bif Nat.blt pc 48 then
            (bif Nat.beq pc 47 then some (.iload_n 2, 2, 0, 0, 0) else none)
          else
            bif Nat.blt pc 49 then
              (bif Nat.beq pc 48 then some (.aaload, 0, 0, 0, 0) else none)
            else
              bif Nat.beq pc 49 then some (.invokevirtual 165, 71, 2, 0, 0) else none)
      else
        bif Nat.blt pc 57 then
          (bif Nat.blt pc 53 then
            (bif Nat.beq pc 52 then some (.aload_n 0, 0, 0, 0, 0) else none)
          else
            bif Nat.blt pc 54 then
              (bif Nat.beq pc 53 then some (.iconst 1, 0, 0, 0, 1) else none)
            else
              bif Nat.beq pc 54 then some (.putfield 181, 0, 12, 0, 0) else none)
        else
          bif Nat.blt pc 58 then
            (bif Nat.beq pc 57 then some (.aload_n 0, 0, 0, 0, 0) else none)
          else
            bif Nat.blt pc 59 then
              (bif Nat.beq pc 58 then some (.aload_n 0, 0, 0, 0, 0) else none)
            else
              bif Nat.beq pc 59 then some (.getfield 162, 0, 8, 0, 0) else none)
    else
      bif Nat.blt pc 72 then
        (bif Nat.blt pc 65 then
          (bif Nat.blt pc 63 then
            (bif Nat.beq pc 62 then some (.iconst 1, 0, 0, 0, 1) else none)
          else
            bif Nat.blt pc 64 then
              (bif Nat.beq pc 63 then some (.iadd, 0, 0, 0, 0) else none)
            else
              bif Nat.beq pc 64 then some (.iconst 3, 0, 0, 0, 3) else none)
        else
          bif Nat.blt pc 68 then
            (bif Nat.beq pc 65 then some (.invokestatic 184, 2, 2, 1, 0) else none)
          else
            bif Nat.blt pc 71 then
              (bif Nat.beq pc 68 then some (.putfield 162, 0, 8, 0, 0) else none)
            else
              bif Nat.beq pc 71 then some (.aload_n 0, 0, 0, 0, 0) else none)
      else
        bif Nat.blt pc 77 then
          (bif Nat.blt pc 73 then
            (bif Nat.beq pc 72 then some (.iload_n 1, 1, 0, 0, 0) else none)
          else
            bif Nat.blt pc 76 then
              (bif Nat.beq pc 73 then some (.putfield 178, 0, 10, 0, 0) else none)
            else
              bif Nat.beq pc 76 then some (.return_, 0, 0, 0, 0) else none)
        else
          bif Nat.blt pc 80 then
            (bif Nat.beq pc 77 then some (.iinc 2 1, 2, 0, 0, 1) else none)
          else
            bif Nat.blt pc 83 then
              (bif Nat.beq pc 80 then some (.goto (-54), 26, 0, 0, 0) else none)
            else
              bif Nat.beq pc 83 then some (.return_, 0, 0, 0, 0) else none
def i_End_passTick : Nat → Option Ent := ab_tab 84 t_End_passTick
def h_End_passTick (pc : Nat) : Nat × List Bool := bif Nat.beq pc 26 then (1, [true, true, true]) else (0, [])
def s_End_passTick (pc : Nat) : List (Int32 × Nat) × Nat := ([], 0)
noncomputable def eV_End_passTick : Nat → List AV → Mm → Option Mm := ab_ev [(71, c_End_losePacket)]
noncomputable def eI_End_passTick : Nat → List AV → Mm → Option (Int32 × Mm) := ab_ev [(67, c_End_isOpen), (70, c_End_isTimed), (2, c_Math_min)]
noncomputable def b_End_passTick_0 (f : Nat) (v0 : Nat) (v1 : Int32) (m : Mm) : Option Rs := ab_ex KT none s_End_passTick eV_End_passTick eI_End_passTick i_End_passTick h_End_passTick f 0 [some (.inr (.inr (7, some v0))), some (.inl v1), none] [] m
noncomputable def b_End_passTick_26 (f : Nat) (v0 : Nat) (v1 : Int32) (v2 : Int32) (m : Mm) : Option Rs := ab_ex KT none s_End_passTick eV_End_passTick eI_End_passTick i_End_passTick h_End_passTick f 26 [some (.inr (.inr (7, some v0))), some (.inl v1), some (.inl v2)] [] m
set_option maxRecDepth 100000 in
set_option maxHeartbeats 4000000 in
theorem b_End_passTick_0_eq (f : Nat) (v0 : Nat) (v1 : Int32) (m : Mm) : b_End_passTick_0 (f + 1) v0 v1 m =
    (r_End_isOpen v0 m).bind fun z1 =>
    if z1.1 = 0 then
      some (.inl (none, z1.2))
    else
      if ((6 : Int32) <<< ((z1.2.1 23 v0 0) &&& 31)) ≤ (v1 - (z1.2.1 25 v0 0)) then
        b_End_passTick_26 f v0 v1 (0 : Int32) z1.2
      else
        some (.inl (none, z1.2)) := rfl
set_option maxRecDepth 100000 in
set_option maxHeartbeats 4000000 in
theorem b_End_passTick_26_eq (f : Nat) (v0 : Nat) (v1 : Int32) (v2 : Int32) (m : Mm) : b_End_passTick_26 (f + 1) v0 v1 v2 m =
    if (m.1 21 v0 0) ≤ v2 then
      some (.inl (none, m))
    else
      (r_End_isTimed v0 v2 m).bind fun z1 =>
      if z1.1 = 0 then
        ab_let (v2 + (1 : Int32)) fun x2 =>
        b_End_passTick_26 f v0 v1 x2 z1.2
      else
        (ab_ix v2 512).bind fun i3 =>
        ((z1.2.2.2.1 39 (v0 + 5) i3).bind fun q4 => r_End_losePacket v0 q4 z1.2).bind fun m5 =>
        (ab_bo (1 : Int32)).bind fun y7 =>
        ab_let (ab_uI m5 27 v0 0 y7) fun m6 =>
        (r_Math_min ((m6.1 23 v0 0) + (1 : Int32)) (3 : Int32) m6).bind fun z8 =>
        ab_let (ab_uI z8.2 23 v0 0 z8.1) fun m9 =>
        ab_let (ab_uI m9 25 v0 0 v1) fun m10 =>
        some (.inl (none, m10)) := rfl
noncomputable def r_End_passTick : Nat → Int32 → Mm → Option Mm := ab_seal fun v0 v1 m => ab_rV (b_End_passTick_0 50000 v0 v1 m)
theorem r_End_passTick_eq (v0 : Nat) (v1 : Int32) (m : Mm) : r_End_passTick v0 v1 m = ab_rV (b_End_passTick_0 50000 v0 v1 m) := by
  unfold r_End_passTick
  rw [ab_seal_eq]
noncomputable def c_End_passTick : List AV → Mm → Option Mm := fun av m => match av with
  | [.inr (.inr (kv0, ov0)), .inl v1] => if kv0 = 7 then (ov0.bind fun v0 => r_End_passTick v0 v1 m) else none
  | _ => none
theorem c_End_passTick_inv {av : List AV} {m : Mm} {r : Mm} (h : c_End_passTick av m = some r) : ∃ (v0 : Nat) (v1 : Int32), av = [.inr (.inr (7, some v0)), .inl v1] ∧ r_End_passTick v0 v1 m = some r := by
  unfold c_End_passTick at h
  split at h
  · rename_i kv0 ov0 v1
    by_cases hkv0 : kv0 = 7
    case neg => rw [if_neg hkv0] at h; cases h
    rw [if_pos hkv0] at h
    subst hkv0
    obtain ⟨v0, hev0, h⟩ := Option.bind_eq_some_iff.mp h
    subst hev0
    exact ⟨v0, v1, rfl, h⟩
  · cases h
def cs_End_passTick : List Nat := [1, 36, 49, 65]
set_option maxRecDepth 100000 in
theorem E_End_passTick : ∀ (pc : Nat) (q : Ent), i_End_passTick pc = some q → ab_E KT CL ab_gW "StreamTransport$End" "passTick" none prog_2_method_14_code s_End_passTick 3 pc q.1 q.2.1 q.2.2.1 q.2.2.2.1 q.2.2.2.2 := fun pc q hq =>
  ab_Eb_ok lc_End lj_End fl_End (fpn_End "passTick") nw_End na_End nq_End (ab_tab_all (t := t_End_passTick) (chk := fun pc q => ab_Eb none prog_2_method_14_code s_End_passTick 3 LC_End LJ_End FL_End FPn_End NW_End NA_End NQ_End pc q.1 q.2.1 q.2.2.1 q.2.2.2.1 q.2.2.2.2) (by decide +kernel) hq)
set_option maxRecDepth 100000 in
theorem kp_End_passTick {av : List AV} {m : Mm} {r : Mm} (h : c_End_passTick av m = some r) : ab_kp m r := by
  obtain ⟨v0, v1, -, h⟩ := c_End_passTick_inv h
  rw [r_End_passTick_eq] at h
  have hV : ∀ a av m m', eV_End_passTick a av m = some m' → ab_kp m m' := ab_ev_all (P := fun _ m r => ab_kp m r) [(71, c_End_losePacket)] (List.forall_mem_cons.mpr ⟨fun av m r h => kp_End_losePacket h, fun q hq => by cases hq⟩)
  have hI : ∀ a av m q, eI_End_passTick a av m = some q → ab_kp m q.2 := ab_ev_all (P := fun _ (m : Mm) (r : Int32 × Mm) => ab_kp m r.2) [(67, c_End_isOpen), (70, c_End_isTimed), (2, c_Math_min)] (List.forall_mem_cons.mpr ⟨fun av m r h => kp_End_isOpen h, List.forall_mem_cons.mpr ⟨fun av m r h => kp_End_isTimed h, List.forall_mem_cons.mpr ⟨fun av m r h => kp_Math_min h, fun q hq => by cases hq⟩⟩⟩)
  exact ab_kprel (ρ := .inl (none, r)) (ab_tab_isn (t := t_End_passTick) (by decide +kernel)) hV hI (ab_rV_inv h)
set_option maxRecDepth 100000 in
theorem cl_End_passTick (l : Launch) : ∀ (pc : Nat) (q : Ent), i_End_passTick pc = some q → ab_inv q.1 = true → ab_CR l KT CL none ab_gW "StreamTransport$End" prog_2_method_14_code 3 3 69 eV_End_passTick eI_End_passTick pc q := by
  intro pc q hq hi
  have hm : pc ∈ cs_End_passTick := ab_tab_cs (t := t_End_passTick) (by decide +kernel) hq hi
  simp only [cs_End_passTick, List.mem_cons, List.not_mem_nil, or_false] at hm
  rcases hm with rfl | rfl | rfl | rfl
  · cases (Option.some.inj hq : ((.invokevirtual 61, 67, 1, 1, 0) : Ent) = q)
    exact ab_crV (C := "StreamTransport$End") (by decide +kernel) cw_End_isOpen (ab_gW_in 401 (by decide +kernel) rfl) is_End_isOpen sl_End_isOpen (by decide) (fun av m m' h => by cases h) (fun av m r h => cm_End_isOpen l h) KT_nd
  · cases (Option.some.inj hq : ((.invokevirtual 175, 70, 2, 1, 0) : Ent) = q)
    exact ab_crV (C := "StreamTransport$End") (by decide +kernel) cw_End_isTimed (ab_gW_in 795 (by decide +kernel) rfl) is_End_isTimed sl_End_isTimed (by decide) (fun av m m' h => by cases h) (fun av m r h => cm_End_isTimed l h) KT_nd
  · cases (Option.some.inj hq : ((.invokevirtual 165, 71, 2, 0, 0) : Ent) = q)
    exact ab_crV (C := "StreamTransport$End") (by decide +kernel) cw_End_losePacket (ab_gW_in 693 (by decide +kernel) rfl) is_End_losePacket sl_End_losePacket (by decide) (fun av m m' h => cm_End_losePacket l h) (fun av m r h => by cases h) KT_nd
  · cases (Option.some.inj hq : ((.invokestatic 184, 2, 2, 1, 0) : Ent) = q)
    exact ab_crS (by decide +kernel) cw_Math_min (ab_gW_in 799 (by decide +kernel) rfl) st_Math_min (by decide) (fun av m m' h => by cases h) (fun av m r h => cm_Math_min l h) KT_nd
theorem cw_End_passTick : ab_cw y_End_passTick prog_2_method_14_code 3 1 none := ⟨ab_gW_in 794 (by decide +kernel) rfl, ab_gW_in 63 (by decide +kernel) rfl, by decide +kernel, by decide +kernel, by decide +kernel⟩
theorem is_End_passTick : Cond.instanceMethod y_End_passTick ∈ ab_gW := ab_gW_in 792 (by decide +kernel) rfl
theorem sl_End_passTick : Cond.selects "StreamTransport$End" y_End_passTick y_End_passTick ∈ ab_gW := ab_gW_in 793 (by decide +kernel) rfl
set_option maxRecDepth 100000 in
theorem cm_End_passTick (l : Launch) {av : List AV} {m : Mm} {r : Mm} (h0 : c_End_passTick av m = some r) : ∃ (k q : Nat) (av' : List AV) (ci : Nat) (fs : List (Nat × Nat × Nat × Nat)) (z : vw_C), av = .inr (.inr (k, some q)) :: av' ∧ av'.length = 1 ∧ k ≠ 0 ∧ KT[k]? = some (.inl (ci, fs)) ∧ CL[ci]? = some z ∧ z.1 = "StreamTransport$End" ∧ ab_nos av' ∧ ab_Met l KT CL y_End_passTick (Cond.code y_End_passTick prog_2_method_14_code 3 none :: ab_gW) 3 69 none av m none r := by
  obtain ⟨v0, v1, hav, h⟩ := c_End_passTick_inv h0
  rw [r_End_passTick_eq] at h
  have hmo : ab_mo m r := ab_kp_mo (kp_End_passTick h0)
  subst hav
  exact ⟨_, _, _, _, _, _, rfl, rfl, by decide, rfl, rfl, rfl, (by intro v hv q e; subst e; simp at hv), ab_met (by decide +kernel) KT_0 KT_nd KT_k3 E_End_passTick (cl_End_passTick l) hmo (Nat.le_of_ble_eq_true rfl) (ab_rV_inv h) (fun v hv => by cases hv)⟩
/-! StreamTransport$End.putClose(LStreamTransport$Row;)V -/
def y_End_putClose : MethodName := ⟨"StreamTransport$End", "putClose", "(LStreamTransport$Row;)V"⟩
def t_End_putClose (pc : Nat) : Option Ent :=
  bif Nat.blt pc 8 then
    (bif Nat.blt pc 3 then
      (bif Nat.blt pc 1 then
        (bif Nat.beq pc 0 then some (.aload_n 1, 1, 0, 0, 0) else none)
      else
        bif Nat.beq pc 1 then some (.bipush 6, 0, 0, 0, 6) else none)
    else
      bif Nat.blt pc 6 then
        (bif Nat.beq pc 3 then some (.invokevirtual 206, 8, 2, 0, 0) else none)
      else
        bif Nat.blt pc 7 then
          (bif Nat.beq pc 6 then some (.aload_n 1, 1, 0, 0, 0) else none)
        else
          bif Nat.beq pc 7 then some (.aload_n 0, 0, 0, 0, 0) else none)
  else
    bif Nat.blt pc 15 then
      (bif Nat.blt pc 11 then
        (bif Nat.beq pc 8 then some (.getfield 31, 0, 7, 0, 0) else none)
      else
        bif Nat.blt pc 14 then
          (bif Nat.beq pc 11 then some (.invokevirtual 209, 10, 2, 0, 0) else none)
        else
          bif Nat.beq pc 14 then some (.aload_n 0, 0, 0, 0, 0) else none)
    else
      bif Nat.blt pc 16 then
        (bif Nat.beq pc 15 then some (.iconst 0, 0, 0, 0, 0) else none)
      else
        bif Nat.blt pc 19 then
          (bif Nat.beq pc 16 then some (.putfield 57, 0, 13, 0, 0) else none)
        else
          bif Nat.beq pc 19 then some (.return_, 0, 0, 0, 0) else none
def i_End_putClose : Nat → Option Ent := ab_tab 20 t_End_putClose
def h_End_putClose (pc : Nat) : Nat × List Bool := (0, [])
def s_End_putClose (pc : Nat) : List (Int32 × Nat) × Nat := ([], 0)
noncomputable def eV_End_putClose : Nat → List AV → Mm → Option Mm := ab_ev [(8, c_Row_put), (10, c_Row_putNumber)]
noncomputable def eI_End_putClose : Nat → List AV → Mm → Option (Int32 × Mm) := ab_ev []
noncomputable def b_End_putClose_0 (f : Nat) (v0 : Nat) (v1 : Nat) (m : Mm) : Option Rs := ab_ex KT none s_End_putClose eV_End_putClose eI_End_putClose i_End_putClose h_End_putClose f 0 [some (.inr (.inr (7, some v0))), some (.inr (.inr (4, some v1)))] [] m
set_option maxRecDepth 100000 in
set_option maxHeartbeats 4000000 in
theorem b_End_putClose_0_eq (f : Nat) (v0 : Nat) (v1 : Nat) (m : Mm) : b_End_putClose_0 (f + 1) v0 v1 m =
    (r_Row_put v1 (6 : Int32) m).bind fun m1 =>
    (r_Row_putNumber v1 (m1.1 22 v0 0) m1).bind fun m2 =>
    (ab_bo (0 : Int32)).bind fun y4 =>
    ab_let (ab_uI m2 28 v0 0 y4) fun m3 =>
    some (.inl (none, m3)) := rfl
noncomputable def r_End_putClose : Nat → Nat → Mm → Option Mm := ab_seal fun v0 v1 m => ab_rV (b_End_putClose_0 50000 v0 v1 m)
theorem r_End_putClose_eq (v0 : Nat) (v1 : Nat) (m : Mm) : r_End_putClose v0 v1 m = ab_rV (b_End_putClose_0 50000 v0 v1 m) := by
  unfold r_End_putClose
  rw [ab_seal_eq]
noncomputable def c_End_putClose : List AV → Mm → Option Mm := fun av m => match av with
  | [.inr (.inr (kv0, ov0)), .inr (.inr (kv1, ov1))] => if kv0 = 7 then (if kv1 = 4 then (ov0.bind fun v0 => ov1.bind fun v1 => r_End_putClose v0 v1 m) else none) else none
  | _ => none
theorem c_End_putClose_inv {av : List AV} {m : Mm} {r : Mm} (h : c_End_putClose av m = some r) : ∃ (v0 : Nat) (v1 : Nat), av = [.inr (.inr (7, some v0)), .inr (.inr (4, some v1))] ∧ r_End_putClose v0 v1 m = some r := by
  unfold c_End_putClose at h
  split at h
  · rename_i kv0 ov0 kv1 ov1
    by_cases hkv0 : kv0 = 7
    case neg => rw [if_neg hkv0] at h; cases h
    rw [if_pos hkv0] at h
    subst hkv0
    by_cases hkv1 : kv1 = 4
    case neg => rw [if_neg hkv1] at h; cases h
    rw [if_pos hkv1] at h
    subst hkv1
    obtain ⟨v0, hev0, h⟩ := Option.bind_eq_some_iff.mp h
    obtain ⟨v1, hev1, h⟩ := Option.bind_eq_some_iff.mp h
    subst hev0
    subst hev1
    exact ⟨v0, v1, rfl, h⟩
  · cases h
def cs_End_putClose : List Nat := [3, 11]
set_option maxRecDepth 100000 in
theorem E_End_putClose : ∀ (pc : Nat) (q : Ent), i_End_putClose pc = some q → ab_E KT CL ab_gW "StreamTransport$End" "putClose" none prog_2_method_16_code s_End_putClose 2 pc q.1 q.2.1 q.2.2.1 q.2.2.2.1 q.2.2.2.2 := fun pc q hq =>
  ab_Eb_ok lc_End lj_End fl_End (fpn_End "putClose") nw_End na_End nq_End (ab_tab_all (t := t_End_putClose) (chk := fun pc q => ab_Eb none prog_2_method_16_code s_End_putClose 2 LC_End LJ_End FL_End FPn_End NW_End NA_End NQ_End pc q.1 q.2.1 q.2.2.1 q.2.2.2.1 q.2.2.2.2) (by decide +kernel) hq)
set_option maxRecDepth 100000 in
theorem kp_End_putClose {av : List AV} {m : Mm} {r : Mm} (h : c_End_putClose av m = some r) : ab_kp m r := by
  obtain ⟨v0, v1, -, h⟩ := c_End_putClose_inv h
  rw [r_End_putClose_eq] at h
  have hV : ∀ a av m m', eV_End_putClose a av m = some m' → ab_kp m m' := ab_ev_all (P := fun _ m r => ab_kp m r) [(8, c_Row_put), (10, c_Row_putNumber)] (List.forall_mem_cons.mpr ⟨fun av m r h => kp_Row_put h, List.forall_mem_cons.mpr ⟨fun av m r h => kp_Row_putNumber h, fun q hq => by cases hq⟩⟩)
  have hI : ∀ a av m q, eI_End_putClose a av m = some q → ab_kp m q.2 := ab_ev_all (P := fun _ (m : Mm) (r : Int32 × Mm) => ab_kp m r.2) [] (fun q hq => by cases hq)
  exact ab_kprel (ρ := .inl (none, r)) (ab_tab_isn (t := t_End_putClose) (by decide +kernel)) hV hI (ab_rV_inv h)
set_option maxRecDepth 100000 in
theorem cl_End_putClose (l : Launch) : ∀ (pc : Nat) (q : Ent), i_End_putClose pc = some q → ab_inv q.1 = true → ab_CR l KT CL none ab_gW "StreamTransport$End" prog_2_method_16_code 2 2 45 eV_End_putClose eI_End_putClose pc q := by
  intro pc q hq hi
  have hm : pc ∈ cs_End_putClose := ab_tab_cs (t := t_End_putClose) (by decide +kernel) hq hi
  simp only [cs_End_putClose, List.mem_cons, List.not_mem_nil, or_false] at hm
  rcases hm with rfl | rfl
  · cases (Option.some.inj hq : ((.invokevirtual 206, 8, 2, 0, 0) : Ent) = q)
    exact ab_crV (C := "StreamTransport$Row") (by decide +kernel) cw_Row_put (ab_gW_in 478 (by decide +kernel) rfl) is_Row_put sl_Row_put (by decide) (fun av m m' h => cm_Row_put l h) (fun av m r h => by cases h) KT_nd
  · cases (Option.some.inj hq : ((.invokevirtual 209, 10, 2, 0, 0) : Ent) = q)
    exact ab_crV (C := "StreamTransport$Row") (by decide +kernel) cw_Row_putNumber (ab_gW_in 479 (by decide +kernel) rfl) is_Row_putNumber sl_Row_putNumber (by decide) (fun av m m' h => cm_Row_putNumber l h) (fun av m r h => by cases h) KT_nd
theorem cw_End_putClose : ab_cw y_End_putClose prog_2_method_16_code 2 1 none := ⟨ab_gW_in 577 (by decide +kernel) rfl, ab_gW_in 63 (by decide +kernel) rfl, by decide +kernel, by decide +kernel, by decide +kernel⟩
theorem is_End_putClose : Cond.instanceMethod y_End_putClose ∈ ab_gW := ab_gW_in 576 (by decide +kernel) rfl
theorem sl_End_putClose : Cond.selects "StreamTransport$End" y_End_putClose y_End_putClose ∈ ab_gW := ab_gW_in 9 (by decide +kernel) rfl
set_option maxRecDepth 100000 in
theorem cm_End_putClose (l : Launch) {av : List AV} {m : Mm} {r : Mm} (h0 : c_End_putClose av m = some r) : ∃ (k q : Nat) (av' : List AV) (ci : Nat) (fs : List (Nat × Nat × Nat × Nat)) (z : vw_C), av = .inr (.inr (k, some q)) :: av' ∧ av'.length = 1 ∧ k ≠ 0 ∧ KT[k]? = some (.inl (ci, fs)) ∧ CL[ci]? = some z ∧ z.1 = "StreamTransport$End" ∧ ab_nos av' ∧ ab_Met l KT CL y_End_putClose (Cond.code y_End_putClose prog_2_method_16_code 2 none :: ab_gW) 2 45 none av m none r := by
  obtain ⟨v0, v1, hav, h⟩ := c_End_putClose_inv h0
  rw [r_End_putClose_eq] at h
  have hmo : ab_mo m r := ab_kp_mo (kp_End_putClose h0)
  subst hav
  exact ⟨_, _, _, _, _, _, rfl, rfl, by decide, rfl, rfl, rfl, (by intro v hv q e; subst e; simp at hv), ab_met (by decide +kernel) KT_0 KT_nd KT_k3 E_End_putClose (cl_End_putClose l) hmo (Nat.le_of_ble_eq_true rfl) (ab_rV_inv h) (fun v hv => by cases hv)⟩
/-! StreamTransport$End.putAck(LStreamTransport$Row;)V -/
def y_End_putAck : MethodName := ⟨"StreamTransport$End", "putAck", "(LStreamTransport$Row;)V"⟩
def t_End_putAck (pc : Nat) : Option Ent :=
  bif Nat.blt pc 51 then
    (bif Nat.blt pc 26 then
      (bif Nat.blt pc 13 then
        (bif Nat.blt pc 7 then
          (bif Nat.blt pc 1 then
            (bif Nat.beq pc 0 then some (.aload_n 0, 0, 0, 0, 0) else none)
          else
            bif Nat.blt pc 4 then
              (bif Nat.beq pc 1 then some (.getfield 12, 0, 3, 1, 0) else none)
            else
              bif Nat.beq pc 4 then some (.getfield 65, 3, 1, 0, 0) else none)
        else
          bif Nat.blt pc 9 then
            (bif Nat.blt pc 8 then
              (bif Nat.beq pc 7 then some (.istore_n 2, 2, 0, 0, 0) else none)
            else
              bif Nat.beq pc 8 then some (.aload_n 0, 0, 0, 0, 0) else none)
          else
            bif Nat.blt pc 12 then
              (bif Nat.beq pc 9 then some (.getfield 12, 0, 3, 1, 0) else none)
            else
              bif Nat.beq pc 12 then some (.iload_n 2, 2, 0, 0, 0) else none)
      else
        bif Nat.blt pc 18 then
          (bif Nat.blt pc 16 then
            (bif Nat.beq pc 13 then some (.invokevirtual 224, 18, 2, 1, 0) else none)
          else
            bif Nat.blt pc 17 then
              (bif Nat.beq pc 16 then some (.istore_n 3, 3, 0, 0, 0) else none)
            else
              bif Nat.beq pc 17 then some (.aload_n 0, 0, 0, 0, 0) else none)
        else
          bif Nat.blt pc 22 then
            (bif Nat.blt pc 21 then
              (bif Nat.beq pc 18 then some (.getfield 12, 0, 3, 1, 0) else none)
            else
              bif Nat.beq pc 21 then some (.iload_n 3, 3, 0, 0, 0) else none)
          else
            bif Nat.blt pc 23 then
              (bif Nat.beq pc 22 then some (.iconst 2, 0, 0, 0, 2) else none)
            else
              bif Nat.beq pc 23 then some (.invokevirtual 227, 20, 3, 1, 0) else none)
    else
      bif Nat.blt pc 38 then
        (bif Nat.blt pc 30 then
          (bif Nat.blt pc 28 then
            (bif Nat.beq pc 26 then some (.istore 4, 4, 0, 0, 0) else none)
          else
            bif Nat.blt pc 29 then
              (bif Nat.beq pc 28 then some (.aload_n 1, 1, 0, 0, 0) else none)
            else
              bif Nat.beq pc 29 then some (.iconst 1, 0, 0, 0, 1) else none)
        else
          bif Nat.blt pc 34 then
            (bif Nat.blt pc 33 then
              (bif Nat.beq pc 30 then some (.invokevirtual 206, 8, 2, 0, 0) else none)
            else
              bif Nat.beq pc 33 then some (.aload_n 1, 1, 0, 0, 0) else none)
          else
            bif Nat.blt pc 35 then
              (bif Nat.beq pc 34 then some (.iload_n 2, 2, 0, 0, 0) else none)
            else
              bif Nat.beq pc 35 then some (.invokevirtual 209, 10, 2, 0, 0) else none)
      else
        bif Nat.blt pc 42 then
          (bif Nat.blt pc 40 then
            (bif Nat.blt pc 39 then
              (bif Nat.beq pc 38 then some (.aload_n 1, 1, 0, 0, 0) else none)
            else
              bif Nat.beq pc 39 then some (.iload_n 2, 2, 0, 0, 0) else none)
          else
            bif Nat.blt pc 41 then
              (bif Nat.beq pc 40 then some (.iload_n 3, 3, 0, 0, 0) else none)
            else
              bif Nat.beq pc 41 then some (.isub, 0, 0, 0, 0) else none)
        else
          bif Nat.blt pc 46 then
            (bif Nat.blt pc 45 then
              (bif Nat.beq pc 42 then some (.invokevirtual 209, 10, 2, 0, 0) else none)
            else
              bif Nat.beq pc 45 then some (.aload_n 1, 1, 0, 0, 0) else none)
          else
            bif Nat.blt pc 48 then
              (bif Nat.beq pc 46 then some (.iload 4, 4, 0, 0, 0) else none)
            else
              bif Nat.beq pc 48 then some (.invokevirtual 209, 10, 2, 0, 0) else none)
  else
    bif Nat.blt pc 75 then
      (bif Nat.blt pc 65 then
        (bif Nat.blt pc 56 then
          (bif Nat.blt pc 52 then
            (bif Nat.beq pc 51 then some (.iconst 0, 0, 0, 0, 0) else none)
          else
            bif Nat.blt pc 54 then
              (bif Nat.beq pc 52 then some (.istore 5, 5, 0, 0, 0) else none)
            else
              bif Nat.beq pc 54 then some (.iload 5, 5, 0, 0, 0) else none)
        else
          bif Nat.blt pc 61 then
            (bif Nat.blt pc 58 then
              (bif Nat.beq pc 56 then some (.iload 4, 4, 0, 0, 0) else none)
            else
              bif Nat.beq pc 58 then some (.if_icmp .ge (43), 101, 0, 0, 0) else none)
          else
            bif Nat.blt pc 62 then
              (bif Nat.beq pc 61 then some (.aload_n 0, 0, 0, 0, 0) else none)
            else
              bif Nat.beq pc 62 then some (.getfield 12, 0, 3, 1, 0) else none)
      else
        bif Nat.blt pc 71 then
          (bif Nat.blt pc 69 then
            (bif Nat.blt pc 66 then
              (bif Nat.beq pc 65 then some (.iload_n 3, 3, 0, 0, 0) else none)
            else
              bif Nat.beq pc 66 then some (.invokevirtual 230, 19, 2, 1, 0) else none)
          else
            bif Nat.blt pc 70 then
              (bif Nat.beq pc 69 then some (.istore_n 2, 2, 0, 0, 0) else none)
            else
              bif Nat.beq pc 70 then some (.aload_n 1, 1, 0, 0, 0) else none)
        else
          bif Nat.blt pc 73 then
            (bif Nat.blt pc 72 then
              (bif Nat.beq pc 71 then some (.iload_n 3, 3, 0, 0, 0) else none)
            else
              bif Nat.beq pc 72 then some (.iload_n 2, 2, 0, 0, 0) else none)
          else
            bif Nat.blt pc 74 then
              (bif Nat.beq pc 73 then some (.isub, 0, 0, 0, 0) else none)
            else
              bif Nat.beq pc 74 then some (.iconst 2, 0, 0, 0, 2) else none)
    else
      bif Nat.blt pc 88 then
        (bif Nat.blt pc 80 then
          (bif Nat.blt pc 76 then
            (bif Nat.beq pc 75 then some (.isub, 0, 0, 0, 0) else none)
          else
            bif Nat.blt pc 79 then
              (bif Nat.beq pc 76 then some (.invokevirtual 209, 10, 2, 0, 0) else none)
            else
              bif Nat.beq pc 79 then some (.aload_n 0, 0, 0, 0, 0) else none)
        else
          bif Nat.blt pc 84 then
            (bif Nat.blt pc 83 then
              (bif Nat.beq pc 80 then some (.getfield 12, 0, 3, 1, 0) else none)
            else
              bif Nat.beq pc 83 then some (.iload_n 2, 2, 0, 0, 0) else none)
          else
            bif Nat.blt pc 87 then
              (bif Nat.beq pc 84 then some (.invokevirtual 224, 18, 2, 1, 0) else none)
            else
              bif Nat.beq pc 87 then some (.istore_n 3, 3, 0, 0, 0) else none)
      else
        bif Nat.blt pc 92 then
          (bif Nat.blt pc 90 then
            (bif Nat.blt pc 89 then
              (bif Nat.beq pc 88 then some (.aload_n 1, 1, 0, 0, 0) else none)
            else
              bif Nat.beq pc 89 then some (.iload_n 2, 2, 0, 0, 0) else none)
          else
            bif Nat.blt pc 91 then
              (bif Nat.beq pc 90 then some (.iload_n 3, 3, 0, 0, 0) else none)
            else
              bif Nat.beq pc 91 then some (.isub, 0, 0, 0, 0) else none)
        else
          bif Nat.blt pc 98 then
            (bif Nat.blt pc 95 then
              (bif Nat.beq pc 92 then some (.invokevirtual 209, 10, 2, 0, 0) else none)
            else
              bif Nat.beq pc 95 then some (.iinc 5 1, 5, 0, 0, 1) else none)
          else
            bif Nat.blt pc 101 then
              (bif Nat.beq pc 98 then some (.goto (-44), 54, 0, 0, 0) else none)
            else
              bif Nat.beq pc 101 then some (.return_, 0, 0, 0, 0) else none
def i_End_putAck : Nat → Option Ent := ab_tab 102 t_End_putAck
def h_End_putAck (pc : Nat) : Nat × List Bool := bif Nat.beq pc 54 then (1, [true, true, false, true, true, true]) else (0, [])
def s_End_putAck (pc : Nat) : List (Int32 × Nat) × Nat := ([], 0)
noncomputable def eV_End_putAck : Nat → List AV → Mm → Option Mm := ab_ev [(8, c_Row_put), (10, c_Row_putNumber)]
noncomputable def eI_End_putAck : Nat → List AV → Mm → Option (Int32 × Mm) := ab_ev [(18, c_Num_leastOfRange), (20, c_Num_countRangesBelow), (19, c_Num_greatestBelow)]
noncomputable def b_End_putAck_0 (f : Nat) (v0 : Nat) (v1 : Nat) (m : Mm) : Option Rs := ab_ex KT none s_End_putAck eV_End_putAck eI_End_putAck i_End_putAck h_End_putAck f 0 [some (.inr (.inr (7, some v0))), some (.inr (.inr (4, some v1))), none, none, none, none] [] m
noncomputable def b_End_putAck_54 (f : Nat) (v0 : Nat) (v1 : Nat) (v3 : Int32) (v4 : Int32) (v5 : Int32) (m : Mm) : Option Rs := ab_ex KT none s_End_putAck eV_End_putAck eI_End_putAck i_End_putAck h_End_putAck f 54 [some (.inr (.inr (7, some v0))), some (.inr (.inr (4, some v1))), none, some (.inl v3), some (.inl v4), some (.inl v5)] [] m
set_option maxRecDepth 100000 in
set_option maxHeartbeats 4000000 in
theorem b_End_putAck_0_eq (f : Nat) (v0 : Nat) (v1 : Nat) (m : Mm) : b_End_putAck_0 (f + 1) v0 v1 m =
    ab_let ((m.1 30 (v0 + 1) 0)) fun x1 =>
    (r_Num_leastOfRange (v0 + 1) x1 m).bind fun z2 =>
    (r_Num_countRangesBelow (v0 + 1) z2.1 (2 : Int32) z2.2).bind fun z3 =>
    (r_Row_put v1 (1 : Int32) z3.2).bind fun m4 =>
    (r_Row_putNumber v1 x1 m4).bind fun m5 =>
    (r_Row_putNumber v1 (x1 - z2.1) m5).bind fun m6 =>
    (r_Row_putNumber v1 z3.1 m6).bind fun m7 =>
    b_End_putAck_54 f v0 v1 z2.1 z3.1 (0 : Int32) m7 := rfl
set_option maxRecDepth 100000 in
set_option maxHeartbeats 4000000 in
theorem b_End_putAck_54_eq (f : Nat) (v0 : Nat) (v1 : Nat) (v3 : Int32) (v4 : Int32) (v5 : Int32) (m : Mm) : b_End_putAck_54 (f + 1) v0 v1 v3 v4 v5 m =
    if v4 ≤ v5 then
      some (.inl (none, m))
    else
      (r_Num_greatestBelow (v0 + 1) v3 m).bind fun z1 =>
      (r_Row_putNumber v1 ((v3 - z1.1) - (2 : Int32)) z1.2).bind fun m2 =>
      (r_Num_leastOfRange (v0 + 1) z1.1 m2).bind fun z3 =>
      (r_Row_putNumber v1 (z1.1 - z3.1) z3.2).bind fun m4 =>
      ab_let (v5 + (1 : Int32)) fun x5 =>
      b_End_putAck_54 f v0 v1 z3.1 v4 x5 m4 := rfl
noncomputable def r_End_putAck : Nat → Nat → Mm → Option Mm := ab_seal fun v0 v1 m => ab_rV (b_End_putAck_0 50000 v0 v1 m)
theorem r_End_putAck_eq (v0 : Nat) (v1 : Nat) (m : Mm) : r_End_putAck v0 v1 m = ab_rV (b_End_putAck_0 50000 v0 v1 m) := by
  unfold r_End_putAck
  rw [ab_seal_eq]
noncomputable def c_End_putAck : List AV → Mm → Option Mm := fun av m => match av with
  | [.inr (.inr (kv0, ov0)), .inr (.inr (kv1, ov1))] => if kv0 = 7 then (if kv1 = 4 then (ov0.bind fun v0 => ov1.bind fun v1 => r_End_putAck v0 v1 m) else none) else none
  | _ => none
theorem c_End_putAck_inv {av : List AV} {m : Mm} {r : Mm} (h : c_End_putAck av m = some r) : ∃ (v0 : Nat) (v1 : Nat), av = [.inr (.inr (7, some v0)), .inr (.inr (4, some v1))] ∧ r_End_putAck v0 v1 m = some r := by
  unfold c_End_putAck at h
  split at h
  · rename_i kv0 ov0 kv1 ov1
    by_cases hkv0 : kv0 = 7
    case neg => rw [if_neg hkv0] at h; cases h
    rw [if_pos hkv0] at h
    subst hkv0
    by_cases hkv1 : kv1 = 4
    case neg => rw [if_neg hkv1] at h; cases h
    rw [if_pos hkv1] at h
    subst hkv1
    obtain ⟨v0, hev0, h⟩ := Option.bind_eq_some_iff.mp h
    obtain ⟨v1, hev1, h⟩ := Option.bind_eq_some_iff.mp h
    subst hev0
    subst hev1
    exact ⟨v0, v1, rfl, h⟩
  · cases h
def cs_End_putAck : List Nat := [13, 23, 30, 35, 42, 48, 66, 76, 84, 92]
set_option maxRecDepth 100000 in
theorem E_End_putAck : ∀ (pc : Nat) (q : Ent), i_End_putAck pc = some q → ab_E KT CL ab_gW "StreamTransport$End" "putAck" none prog_2_method_18_code s_End_putAck 6 pc q.1 q.2.1 q.2.2.1 q.2.2.2.1 q.2.2.2.2 := fun pc q hq =>
  ab_Eb_ok lc_End lj_End fl_End (fpn_End "putAck") nw_End na_End nq_End (ab_tab_all (t := t_End_putAck) (chk := fun pc q => ab_Eb none prog_2_method_18_code s_End_putAck 6 LC_End LJ_End FL_End FPn_End NW_End NA_End NQ_End pc q.1 q.2.1 q.2.2.1 q.2.2.2.1 q.2.2.2.2) (by decide +kernel) hq)
set_option maxRecDepth 100000 in
theorem kp_End_putAck {av : List AV} {m : Mm} {r : Mm} (h : c_End_putAck av m = some r) : ab_kp m r := by
  obtain ⟨v0, v1, -, h⟩ := c_End_putAck_inv h
  rw [r_End_putAck_eq] at h
  have hV : ∀ a av m m', eV_End_putAck a av m = some m' → ab_kp m m' := ab_ev_all (P := fun _ m r => ab_kp m r) [(8, c_Row_put), (10, c_Row_putNumber)] (List.forall_mem_cons.mpr ⟨fun av m r h => kp_Row_put h, List.forall_mem_cons.mpr ⟨fun av m r h => kp_Row_putNumber h, fun q hq => by cases hq⟩⟩)
  have hI : ∀ a av m q, eI_End_putAck a av m = some q → ab_kp m q.2 := ab_ev_all (P := fun _ (m : Mm) (r : Int32 × Mm) => ab_kp m r.2) [(18, c_Num_leastOfRange), (20, c_Num_countRangesBelow), (19, c_Num_greatestBelow)] (List.forall_mem_cons.mpr ⟨fun av m r h => kp_Num_leastOfRange h, List.forall_mem_cons.mpr ⟨fun av m r h => kp_Num_countRangesBelow h, List.forall_mem_cons.mpr ⟨fun av m r h => kp_Num_greatestBelow h, fun q hq => by cases hq⟩⟩⟩)
  exact ab_kprel (ρ := .inl (none, r)) (ab_tab_isn (t := t_End_putAck) (by decide +kernel)) hV hI (ab_rV_inv h)
set_option maxRecDepth 100000 in
theorem cl_End_putAck (l : Launch) : ∀ (pc : Nat) (q : Ent), i_End_putAck pc = some q → ab_inv q.1 = true → ab_CR l KT CL none ab_gW "StreamTransport$End" prog_2_method_18_code 6 3 68 eV_End_putAck eI_End_putAck pc q := by
  intro pc q hq hi
  have hm : pc ∈ cs_End_putAck := ab_tab_cs (t := t_End_putAck) (by decide +kernel) hq hi
  simp only [cs_End_putAck, List.mem_cons, List.not_mem_nil, or_false] at hm
  rcases hm with rfl | rfl | rfl | rfl | rfl | rfl | rfl | rfl | rfl | rfl
  · cases (Option.some.inj hq : ((.invokevirtual 224, 18, 2, 1, 0) : Ent) = q)
    exact ab_crV (C := "StreamTransport$Numbers") (by decide +kernel) cw_Num_leastOfRange (ab_gW_in 461 (by decide +kernel) rfl) is_Num_leastOfRange sl_Num_leastOfRange (by decide) (fun av m m' h => by cases h) (fun av m r h => cm_Num_leastOfRange l h) KT_nd
  · cases (Option.some.inj hq : ((.invokevirtual 227, 20, 3, 1, 0) : Ent) = q)
    exact ab_crV (C := "StreamTransport$Numbers") (by decide +kernel) cw_Num_countRangesBelow (ab_gW_in 469 (by decide +kernel) rfl) is_Num_countRangesBelow sl_Num_countRangesBelow (by decide) (fun av m m' h => by cases h) (fun av m r h => cm_Num_countRangesBelow l h) KT_nd
  · cases (Option.some.inj hq : ((.invokevirtual 206, 8, 2, 0, 0) : Ent) = q)
    exact ab_crV (C := "StreamTransport$Row") (by decide +kernel) cw_Row_put (ab_gW_in 478 (by decide +kernel) rfl) is_Row_put sl_Row_put (by decide) (fun av m m' h => cm_Row_put l h) (fun av m r h => by cases h) KT_nd
  · cases (Option.some.inj hq : ((.invokevirtual 209, 10, 2, 0, 0) : Ent) = q)
    exact ab_crV (C := "StreamTransport$Row") (by decide +kernel) cw_Row_putNumber (ab_gW_in 479 (by decide +kernel) rfl) is_Row_putNumber sl_Row_putNumber (by decide) (fun av m m' h => cm_Row_putNumber l h) (fun av m r h => by cases h) KT_nd
  · cases (Option.some.inj hq : ((.invokevirtual 209, 10, 2, 0, 0) : Ent) = q)
    exact ab_crV (C := "StreamTransport$Row") (by decide +kernel) cw_Row_putNumber (ab_gW_in 479 (by decide +kernel) rfl) is_Row_putNumber sl_Row_putNumber (by decide) (fun av m m' h => cm_Row_putNumber l h) (fun av m r h => by cases h) KT_nd
  · cases (Option.some.inj hq : ((.invokevirtual 209, 10, 2, 0, 0) : Ent) = q)
    exact ab_crV (C := "StreamTransport$Row") (by decide +kernel) cw_Row_putNumber (ab_gW_in 479 (by decide +kernel) rfl) is_Row_putNumber sl_Row_putNumber (by decide) (fun av m m' h => cm_Row_putNumber l h) (fun av m r h => by cases h) KT_nd
  · cases (Option.some.inj hq : ((.invokevirtual 230, 19, 2, 1, 0) : Ent) = q)
    exact ab_crV (C := "StreamTransport$Numbers") (by decide +kernel) cw_Num_greatestBelow (ab_gW_in 486 (by decide +kernel) rfl) is_Num_greatestBelow sl_Num_greatestBelow (by decide) (fun av m m' h => by cases h) (fun av m r h => cm_Num_greatestBelow l h) KT_nd
  · cases (Option.some.inj hq : ((.invokevirtual 209, 10, 2, 0, 0) : Ent) = q)
    exact ab_crV (C := "StreamTransport$Row") (by decide +kernel) cw_Row_putNumber (ab_gW_in 479 (by decide +kernel) rfl) is_Row_putNumber sl_Row_putNumber (by decide) (fun av m m' h => cm_Row_putNumber l h) (fun av m r h => by cases h) KT_nd
  · cases (Option.some.inj hq : ((.invokevirtual 224, 18, 2, 1, 0) : Ent) = q)
    exact ab_crV (C := "StreamTransport$Numbers") (by decide +kernel) cw_Num_leastOfRange (ab_gW_in 461 (by decide +kernel) rfl) is_Num_leastOfRange sl_Num_leastOfRange (by decide) (fun av m m' h => by cases h) (fun av m r h => cm_Num_leastOfRange l h) KT_nd
  · cases (Option.some.inj hq : ((.invokevirtual 209, 10, 2, 0, 0) : Ent) = q)
    exact ab_crV (C := "StreamTransport$Row") (by decide +kernel) cw_Row_putNumber (ab_gW_in 479 (by decide +kernel) rfl) is_Row_putNumber sl_Row_putNumber (by decide) (fun av m m' h => cm_Row_putNumber l h) (fun av m r h => by cases h) KT_nd
theorem cw_End_putAck : ab_cw y_End_putAck prog_2_method_18_code 6 1 none := ⟨ab_gW_in 460 (by decide +kernel) rfl, ab_gW_in 63 (by decide +kernel) rfl, by decide +kernel, by decide +kernel, by decide +kernel⟩
theorem is_End_putAck : Cond.instanceMethod y_End_putAck ∈ ab_gW := ab_gW_in 459 (by decide +kernel) rfl
theorem sl_End_putAck : Cond.selects "StreamTransport$End" y_End_putAck y_End_putAck ∈ ab_gW := ab_gW_in 1 (by decide +kernel) rfl
set_option maxRecDepth 100000 in
theorem cm_End_putAck (l : Launch) {av : List AV} {m : Mm} {r : Mm} (h0 : c_End_putAck av m = some r) : ∃ (k q : Nat) (av' : List AV) (ci : Nat) (fs : List (Nat × Nat × Nat × Nat)) (z : vw_C), av = .inr (.inr (k, some q)) :: av' ∧ av'.length = 1 ∧ k ≠ 0 ∧ KT[k]? = some (.inl (ci, fs)) ∧ CL[ci]? = some z ∧ z.1 = "StreamTransport$End" ∧ ab_nos av' ∧ ab_Met l KT CL y_End_putAck (Cond.code y_End_putAck prog_2_method_18_code 6 none :: ab_gW) 3 68 none av m none r := by
  obtain ⟨v0, v1, hav, h⟩ := c_End_putAck_inv h0
  rw [r_End_putAck_eq] at h
  have hmo : ab_mo m r := ab_kp_mo (kp_End_putAck h0)
  subst hav
  exact ⟨_, _, _, _, _, _, rfl, rfl, by decide, rfl, rfl, rfl, (by intro v hv q e; subst e; simp at hv), ab_met (by decide +kernel) KT_0 KT_nd KT_k3 E_End_putAck (cl_End_putAck l) hmo (Nat.le_of_ble_eq_true rfl) (ab_rV_inv h) (fun v hv => by cases hv)⟩
/-! StreamTransport$End.putFrames(LStreamTransport$Row;LStreamTransport$Sent;)V -/
def y_End_putFrames : MethodName := ⟨"StreamTransport$End", "putFrames", "(LStreamTransport$Row;LStreamTransport$Sent;)V"⟩
def t_End_putFrames (pc : Nat) : Option Ent :=
  bif Nat.blt pc 41 then
    (bif Nat.blt pc 21 then
      (bif Nat.blt pc 9 then
        (bif Nat.blt pc 4 then
          (bif Nat.blt pc 1 then
            (bif Nat.beq pc 0 then some (.aload_n 0, 0, 0, 0, 0) else none)
          else
            bif Nat.beq pc 1 then some (.getfield 117, 0, 11, 0, 0) else none)
        else
          bif Nat.blt pc 7 then
            (bif Nat.beq pc 4 then some (.ifCond .eq (13), 17, 0, 0, 0) else none)
          else
            bif Nat.blt pc 8 then
              (bif Nat.beq pc 7 then some (.aload_n 0, 0, 0, 0, 0) else none)
            else
              bif Nat.beq pc 8 then some (.aload_n 1, 1, 0, 0, 0) else none)
      else
        bif Nat.blt pc 14 then
          (bif Nat.blt pc 12 then
            (bif Nat.beq pc 9 then some (.invokevirtual 212, 81, 2, 0, 0) else none)
          else
            bif Nat.blt pc 13 then
              (bif Nat.beq pc 12 then some (.aload_n 0, 0, 0, 0, 0) else none)
            else
              bif Nat.beq pc 13 then some (.iconst 0, 0, 0, 0, 0) else none)
        else
          bif Nat.blt pc 17 then
            (bif Nat.beq pc 14 then some (.putfield 117, 0, 11, 0, 0) else none)
          else
            bif Nat.blt pc 18 then
              (bif Nat.beq pc 17 then some (.aload_n 1, 1, 0, 0, 0) else none)
            else
              bif Nat.beq pc 18 then some (.getfield 203, 7, 1, 0, 0) else none)
    else
      bif Nat.blt pc 31 then
        (bif Nat.blt pc 26 then
          (bif Nat.blt pc 22 then
            (bif Nat.beq pc 21 then some (.istore_n 3, 3, 0, 0, 0) else none)
          else
            bif Nat.blt pc 23 then
              (bif Nat.beq pc 22 then some (.aload_n 0, 0, 0, 0, 0) else none)
            else
              bif Nat.beq pc 23 then some (.getfield 46, 0, 1, 1, 0) else none)
        else
          bif Nat.blt pc 27 then
            (bif Nat.beq pc 26 then some (.aload_n 1, 1, 0, 0, 0) else none)
          else
            bif Nat.blt pc 28 then
              (bif Nat.beq pc 27 then some (.aload_n 2, 2, 0, 0, 0) else none)
            else
              bif Nat.beq pc 28 then some (.invokevirtual 215, 66, 3, 0, 0) else none)
      else
        bif Nat.blt pc 36 then
          (bif Nat.blt pc 32 then
            (bif Nat.beq pc 31 then some (.aload_n 0, 0, 0, 0, 0) else none)
          else
            bif Nat.blt pc 35 then
              (bif Nat.beq pc 32 then some (.getfield 53, 0, 2, 1, 0) else none)
            else
              bif Nat.beq pc 35 then some (.aload_n 1, 1, 0, 0, 0) else none)
        else
          bif Nat.blt pc 37 then
            (bif Nat.beq pc 36 then some (.aload_n 2, 2, 0, 0, 0) else none)
          else
            bif Nat.blt pc 40 then
              (bif Nat.beq pc 37 then some (.invokevirtual 218, 43, 3, 0, 0) else none)
            else
              bif Nat.beq pc 40 then some (.aload_n 0, 0, 0, 0, 0) else none)
  else
    bif Nat.blt pc 65 then
      (bif Nat.blt pc 53 then
        (bif Nat.blt pc 46 then
          (bif Nat.blt pc 44 then
            (bif Nat.beq pc 41 then some (.getfield 53, 0, 2, 1, 0) else none)
          else
            bif Nat.blt pc 45 then
              (bif Nat.beq pc 44 then some (.aload_n 1, 1, 0, 0, 0) else none)
            else
              bif Nat.beq pc 45 then some (.aload_n 2, 2, 0, 0, 0) else none)
        else
          bif Nat.blt pc 49 then
            (bif Nat.beq pc 46 then some (.invokevirtual 221, 47, 3, 0, 0) else none)
          else
            bif Nat.blt pc 50 then
              (bif Nat.beq pc 49 then some (.aload_n 0, 0, 0, 0, 0) else none)
            else
              bif Nat.beq pc 50 then some (.getfield 181, 0, 12, 0, 0) else none)
      else
        bif Nat.blt pc 60 then
          (bif Nat.blt pc 56 then
            (bif Nat.beq pc 53 then some (.ifCond .eq (16), 69, 0, 0, 0) else none)
          else
            bif Nat.blt pc 57 then
              (bif Nat.beq pc 56 then some (.aload_n 1, 1, 0, 0, 0) else none)
            else
              bif Nat.beq pc 57 then some (.getfield 203, 7, 1, 0, 0) else none)
        else
          bif Nat.blt pc 61 then
            (bif Nat.beq pc 60 then some (.iload_n 3, 3, 0, 0, 0) else none)
          else
            bif Nat.blt pc 64 then
              (bif Nat.beq pc 61 then some (.if_icmp .ne (8), 69, 0, 0, 0) else none)
            else
              bif Nat.beq pc 64 then some (.aload_n 1, 1, 0, 0, 0) else none)
    else
      bif Nat.blt pc 75 then
        (bif Nat.blt pc 70 then
          (bif Nat.blt pc 66 then
            (bif Nat.beq pc 65 then some (.iconst 0, 0, 0, 0, 0) else none)
          else
            bif Nat.blt pc 69 then
              (bif Nat.beq pc 66 then some (.invokevirtual 206, 8, 2, 0, 0) else none)
            else
              bif Nat.beq pc 69 then some (.aload_n 2, 2, 0, 0, 0) else none)
        else
          bif Nat.blt pc 71 then
            (bif Nat.beq pc 70 then some (.aload_n 1, 1, 0, 0, 0) else none)
          else
            bif Nat.blt pc 74 then
              (bif Nat.beq pc 71 then some (.getfield 203, 7, 1, 0, 0) else none)
            else
              bif Nat.beq pc 74 then some (.iload_n 3, 3, 0, 0, 0) else none)
      else
        bif Nat.blt pc 82 then
          (bif Nat.blt pc 78 then
            (bif Nat.beq pc 75 then some (.if_icmp .le (7), 82, 0, 0, 0) else none)
          else
            bif Nat.blt pc 79 then
              (bif Nat.beq pc 78 then some (.iconst 1, 0, 0, 0, 1) else none)
            else
              bif Nat.beq pc 79 then some (.goto 4, 83, 0, 0, 0) else none)
        else
          bif Nat.blt pc 83 then
            (bif Nat.beq pc 82 then some (.iconst 0, 0, 0, 0, 0) else none)
          else
            bif Nat.blt pc 86 then
              (bif Nat.beq pc 83 then some (.putfield 172, 8, 1, 0, 0) else none)
            else
              bif Nat.beq pc 86 then some (.return_, 0, 0, 0, 0) else none
def i_End_putFrames : Nat → Option Ent := ab_tab 87 t_End_putFrames
def h_End_putFrames (pc : Nat) : Nat × List Bool := bif Nat.beq pc 17 then (1, [true, true, true, false]) else bif Nat.beq pc 69 then (1, [false, true, true, true]) else bif Nat.beq pc 83 then (1, [false, false, false, false]) else (0, [])
def s_End_putFrames (pc : Nat) : List (Int32 × Nat) × Nat := ([], 0)
noncomputable def eV_End_putFrames : Nat → List AV → Mm → Option Mm := ab_ev [(81, c_End_putAck), (66, c_Int_putLimits), (43, c_Otf_putResets), (47, c_Otf_putStreams), (8, c_Row_put)]
noncomputable def eI_End_putFrames : Nat → List AV → Mm → Option (Int32 × Mm) := ab_ev []
noncomputable def b_End_putFrames_0 (f : Nat) (v0 : Nat) (v1 : Nat) (v2 : Nat) (m : Mm) : Option Rs := ab_ex KT none s_End_putFrames eV_End_putFrames eI_End_putFrames i_End_putFrames h_End_putFrames f 0 [some (.inr (.inr (7, some v0))), some (.inr (.inr (4, some v1))), some (.inr (.inr (22, some v2))), none] [] m
noncomputable def b_End_putFrames_17 (f : Nat) (v0 : Nat) (v1 : Nat) (v2 : Nat) (m : Mm) : Option Rs := ab_ex KT none s_End_putFrames eV_End_putFrames eI_End_putFrames i_End_putFrames h_End_putFrames f 17 [some (.inr (.inr (7, some v0))), some (.inr (.inr (4, some v1))), some (.inr (.inr (22, some v2))), none] [] m
noncomputable def b_End_putFrames_69 (f : Nat) (v1 : Nat) (v2 : Nat) (v3 : Int32) (m : Mm) : Option Rs := ab_ex KT none s_End_putFrames eV_End_putFrames eI_End_putFrames i_End_putFrames h_End_putFrames f 69 [none, some (.inr (.inr (4, some v1))), some (.inr (.inr (22, some v2))), some (.inl v3)] [] m
noncomputable def b_End_putFrames_83 (f : Nat) (u0 : Nat) (u1 : Int32) (m : Mm) : Option Rs := ab_ex KT none s_End_putFrames eV_End_putFrames eI_End_putFrames i_End_putFrames h_End_putFrames f 83 [none, none, none, none] [.inl u1, .inr (.inr (22, some u0))] m
set_option maxRecDepth 100000 in
set_option maxHeartbeats 4000000 in
theorem b_End_putFrames_0_eq (f : Nat) (v0 : Nat) (v1 : Nat) (v2 : Nat) (m : Mm) : b_End_putFrames_0 (f + 1) v0 v1 v2 m =
    if (m.1 26 v0 0) = 0 then
      b_End_putFrames_17 f v0 v1 v2 m
    else
      (r_End_putAck v0 v1 m).bind fun m1 =>
      (ab_bo (0 : Int32)).bind fun y3 =>
      ab_let (ab_uI m1 26 v0 0 y3) fun m2 =>
      b_End_putFrames_17 f v0 v1 v2 m2 := rfl
set_option maxRecDepth 100000 in
set_option maxHeartbeats 4000000 in
theorem b_End_putFrames_17_eq (f : Nat) (v0 : Nat) (v1 : Nat) (v2 : Nat) (m : Mm) : b_End_putFrames_17 (f + 1) v0 v1 v2 m =
    ab_let ((m.1 11 v1 0)) fun x1 =>
    (r_Int_putLimits (v0 + 6) v1 v2 m).bind fun m2 =>
    (r_Otf_putResets (v0 + 16) v1 v2 m2).bind fun m3 =>
    (r_Otf_putStreams (v0 + 16) v1 v2 m3).bind fun m4 =>
    if (m4.1 27 v0 0) = 0 then
      b_End_putFrames_69 f v1 v2 x1 m4
    else
      if (m4.1 11 v1 0) = x1 then
        (r_Row_put v1 (0 : Int32) m4).bind fun m5 =>
        b_End_putFrames_69 f v1 v2 x1 m5
      else
        b_End_putFrames_69 f v1 v2 x1 m4 := rfl
set_option maxRecDepth 100000 in
set_option maxHeartbeats 4000000 in
theorem b_End_putFrames_69_eq (f : Nat) (v1 : Nat) (v2 : Nat) (v3 : Int32) (m : Mm) : b_End_putFrames_69 (f + 1) v1 v2 v3 m =
    if (m.1 11 v1 0) ≤ v3 then
      b_End_putFrames_83 f v2 (0 : Int32) m
    else
      b_End_putFrames_83 f v2 (1 : Int32) m := rfl
set_option maxRecDepth 100000 in
set_option maxHeartbeats 4000000 in
theorem b_End_putFrames_83_eq (f : Nat) (u0 : Nat) (u1 : Int32) (m : Mm) : b_End_putFrames_83 (f + 1) u0 u1 m =
    (ab_bo u1).bind fun y2 =>
    ab_let (ab_uI m 69 u0 0 y2) fun m1 =>
    some (.inl (none, m1)) := rfl
noncomputable def r_End_putFrames : Nat → Nat → Nat → Mm → Option Mm := ab_seal fun v0 v1 v2 m => ab_rV (b_End_putFrames_0 50000 v0 v1 v2 m)
theorem r_End_putFrames_eq (v0 : Nat) (v1 : Nat) (v2 : Nat) (m : Mm) : r_End_putFrames v0 v1 v2 m = ab_rV (b_End_putFrames_0 50000 v0 v1 v2 m) := by
  unfold r_End_putFrames
  rw [ab_seal_eq]
noncomputable def c_End_putFrames : List AV → Mm → Option Mm := fun av m => match av with
  | [.inr (.inr (kv0, ov0)), .inr (.inr (kv1, ov1)), .inr (.inr (kv2, ov2))] => if kv0 = 7 then (if kv1 = 4 then (if kv2 = 22 then (ov0.bind fun v0 => ov1.bind fun v1 => ov2.bind fun v2 => r_End_putFrames v0 v1 v2 m) else none) else none) else none
  | _ => none
theorem c_End_putFrames_inv {av : List AV} {m : Mm} {r : Mm} (h : c_End_putFrames av m = some r) : ∃ (v0 : Nat) (v1 : Nat) (v2 : Nat), av = [.inr (.inr (7, some v0)), .inr (.inr (4, some v1)), .inr (.inr (22, some v2))] ∧ r_End_putFrames v0 v1 v2 m = some r := by
  unfold c_End_putFrames at h
  split at h
  · rename_i kv0 ov0 kv1 ov1 kv2 ov2
    by_cases hkv0 : kv0 = 7
    case neg => rw [if_neg hkv0] at h; cases h
    rw [if_pos hkv0] at h
    subst hkv0
    by_cases hkv1 : kv1 = 4
    case neg => rw [if_neg hkv1] at h; cases h
    rw [if_pos hkv1] at h
    subst hkv1
    by_cases hkv2 : kv2 = 22
    case neg => rw [if_neg hkv2] at h; cases h
    rw [if_pos hkv2] at h
    subst hkv2
    obtain ⟨v0, hev0, h⟩ := Option.bind_eq_some_iff.mp h
    obtain ⟨v1, hev1, h⟩ := Option.bind_eq_some_iff.mp h
    obtain ⟨v2, hev2, h⟩ := Option.bind_eq_some_iff.mp h
    subst hev0
    subst hev1
    subst hev2
    exact ⟨v0, v1, v2, rfl, h⟩
  · cases h
def cs_End_putFrames : List Nat := [9, 28, 37, 46, 66]
set_option maxRecDepth 100000 in
theorem E_End_putFrames : ∀ (pc : Nat) (q : Ent), i_End_putFrames pc = some q → ab_E KT CL ab_gW "StreamTransport$End" "putFrames" none prog_2_method_17_code s_End_putFrames 4 pc q.1 q.2.1 q.2.2.1 q.2.2.2.1 q.2.2.2.2 := fun pc q hq =>
  ab_Eb_ok lc_End lj_End fl_End (fpn_End "putFrames") nw_End na_End nq_End (ab_tab_all (t := t_End_putFrames) (chk := fun pc q => ab_Eb none prog_2_method_17_code s_End_putFrames 4 LC_End LJ_End FL_End FPn_End NW_End NA_End NQ_End pc q.1 q.2.1 q.2.2.1 q.2.2.2.1 q.2.2.2.2) (by decide +kernel) hq)
set_option maxRecDepth 100000 in
theorem kp_End_putFrames {av : List AV} {m : Mm} {r : Mm} (h : c_End_putFrames av m = some r) : ab_kp m r := by
  obtain ⟨v0, v1, v2, -, h⟩ := c_End_putFrames_inv h
  rw [r_End_putFrames_eq] at h
  have hV : ∀ a av m m', eV_End_putFrames a av m = some m' → ab_kp m m' := ab_ev_all (P := fun _ m r => ab_kp m r) [(81, c_End_putAck), (66, c_Int_putLimits), (43, c_Otf_putResets), (47, c_Otf_putStreams), (8, c_Row_put)] (List.forall_mem_cons.mpr ⟨fun av m r h => kp_End_putAck h, List.forall_mem_cons.mpr ⟨fun av m r h => kp_Int_putLimits h, List.forall_mem_cons.mpr ⟨fun av m r h => kp_Otf_putResets h, List.forall_mem_cons.mpr ⟨fun av m r h => kp_Otf_putStreams h, List.forall_mem_cons.mpr ⟨fun av m r h => kp_Row_put h, fun q hq => by cases hq⟩⟩⟩⟩⟩)
  have hI : ∀ a av m q, eI_End_putFrames a av m = some q → ab_kp m q.2 := ab_ev_all (P := fun _ (m : Mm) (r : Int32 × Mm) => ab_kp m r.2) [] (fun q hq => by cases hq)
  exact ab_kprel (ρ := .inl (none, r)) (ab_tab_isn (t := t_End_putFrames) (by decide +kernel)) hV hI (ab_rV_inv h)
set_option maxRecDepth 100000 in
theorem cl_End_putFrames (l : Launch) : ∀ (pc : Nat) (q : Ent), i_End_putFrames pc = some q → ab_inv q.1 = true → ab_CR l KT CL none ab_gW "StreamTransport$End" prog_2_method_17_code 4 4 98 eV_End_putFrames eI_End_putFrames pc q := by
  intro pc q hq hi
  have hm : pc ∈ cs_End_putFrames := ab_tab_cs (t := t_End_putFrames) (by decide +kernel) hq hi
  simp only [cs_End_putFrames, List.mem_cons, List.not_mem_nil, or_false] at hm
  rcases hm with rfl | rfl | rfl | rfl | rfl
  · cases (Option.some.inj hq : ((.invokevirtual 212, 81, 2, 0, 0) : Ent) = q)
    exact ab_crV (C := "StreamTransport$End") (by decide +kernel) cw_End_putAck (ab_gW_in 457 (by decide +kernel) rfl) is_End_putAck sl_End_putAck (by decide) (fun av m m' h => cm_End_putAck l h) (fun av m r h => by cases h) KT_nd
  · cases (Option.some.inj hq : ((.invokevirtual 215, 66, 3, 0, 0) : Ent) = q)
    exact ab_crV (C := "StreamTransport$Intake") (by decide +kernel) cw_Int_putLimits (ab_gW_in 487 (by decide +kernel) rfl) is_Int_putLimits sl_Int_putLimits (by decide) (fun av m m' h => cm_Int_putLimits l h) (fun av m r h => by cases h) KT_nd
  · cases (Option.some.inj hq : ((.invokevirtual 218, 43, 3, 0, 0) : Ent) = q)
    exact ab_crV (C := "StreamTransport$Outflow") (by decide +kernel) cw_Otf_putResets (ab_gW_in 525 (by decide +kernel) rfl) is_Otf_putResets sl_Otf_putResets (by decide) (fun av m m' h => cm_Otf_putResets l h) (fun av m r h => by cases h) KT_nd
  · cases (Option.some.inj hq : ((.invokevirtual 221, 47, 3, 0, 0) : Ent) = q)
    exact ab_crV (C := "StreamTransport$Outflow") (by decide +kernel) cw_Otf_putStreams (ab_gW_in 540 (by decide +kernel) rfl) is_Otf_putStreams sl_Otf_putStreams (by decide) (fun av m m' h => cm_Otf_putStreams l h) (fun av m r h => by cases h) KT_nd
  · cases (Option.some.inj hq : ((.invokevirtual 206, 8, 2, 0, 0) : Ent) = q)
    exact ab_crV (C := "StreamTransport$Row") (by decide +kernel) cw_Row_put (ab_gW_in 478 (by decide +kernel) rfl) is_Row_put sl_Row_put (by decide) (fun av m m' h => cm_Row_put l h) (fun av m r h => by cases h) KT_nd
theorem cw_End_putFrames : ab_cw y_End_putFrames prog_2_method_17_code 4 2 none := ⟨ab_gW_in 456 (by decide +kernel) rfl, ab_gW_in 63 (by decide +kernel) rfl, by decide +kernel, by decide +kernel, by decide +kernel⟩
theorem is_End_putFrames : Cond.instanceMethod y_End_putFrames ∈ ab_gW := ab_gW_in 455 (by decide +kernel) rfl
theorem sl_End_putFrames : Cond.selects "StreamTransport$End" y_End_putFrames y_End_putFrames ∈ ab_gW := ab_gW_in 0 (by decide +kernel) rfl
set_option maxRecDepth 100000 in
theorem cm_End_putFrames (l : Launch) {av : List AV} {m : Mm} {r : Mm} (h0 : c_End_putFrames av m = some r) : ∃ (k q : Nat) (av' : List AV) (ci : Nat) (fs : List (Nat × Nat × Nat × Nat)) (z : vw_C), av = .inr (.inr (k, some q)) :: av' ∧ av'.length = 2 ∧ k ≠ 0 ∧ KT[k]? = some (.inl (ci, fs)) ∧ CL[ci]? = some z ∧ z.1 = "StreamTransport$End" ∧ ab_nos av' ∧ ab_Met l KT CL y_End_putFrames (Cond.code y_End_putFrames prog_2_method_17_code 4 none :: ab_gW) 4 98 none av m none r := by
  obtain ⟨v0, v1, v2, hav, h⟩ := c_End_putFrames_inv h0
  rw [r_End_putFrames_eq] at h
  have hmo : ab_mo m r := ab_kp_mo (kp_End_putFrames h0)
  subst hav
  exact ⟨_, _, _, _, _, _, rfl, rfl, by decide, rfl, rfl, rfl, (by intro v hv q e; subst e; simp at hv), ab_met (by decide +kernel) KT_0 KT_nd KT_k3 E_End_putFrames (cl_End_putFrames l) hmo (Nat.le_of_ble_eq_true rfl) (ab_rV_inv h) (fun v hv => by cases hv)⟩
end
