section
def FLp_Row : List ((Nat × Nat × Nat) × Nat) := [((9, 7, 0), 99), ((15, 7, 2), 106), ((19, 7, 1), 102)]
def FL_Row : List (Nat × Nat × Nat) := [(9, 7, 0), (15, 7, 2), (19, 7, 1)]
theorem fl_Row : ∀ q ∈ FL_Row, ab_fld CL ab_gW "StreamTransport$Row" q.1 q.2.1 q.2.2 := ab_flb_ok (own := "StreamTransport$Row") (l := FLp_Row) (by decide +kernel)
def FPnp_Row : List ((Nat × Nat × Nat) × Nat) := [((15, 7, 2), 106), ((19, 7, 1), 102)]
def FPn_Row : List (Nat × Nat × Nat) := [(15, 7, 2), (19, 7, 1)]
theorem fpn_Row (nm : String) : ∀ q ∈ FPn_Row, ∃ ty, ab_fldp CL ab_gW "StreamTransport$Row" nm q.1 q.2.1 q.2.2 ty ∧ ∀ (k t r k' d' : Nat), ab_fs KT q.2.1 q.2.2 k = some (t, r, k', d') → (t = 0 → ty = .int) ∧ (t = 1 → ty = .boolean) ∧ (t = 2 → ((∃ n, ty = .object n) ∨ ∃ t, ty = .array t) ∧ k' ≠ 0) := ab_fpb_ok (own := "StreamTransport$Row") (nm := nm) (l := FPnp_Row) (ab_fpn_ok (by decide +kernel))
def FPip_Row : List ((Nat × Nat × Nat) × Nat) := [((9, 7, 0), 99), ((15, 7, 2), 106), ((19, 7, 1), 102)]
def FPi_Row : List (Nat × Nat × Nat) := [(9, 7, 0), (15, 7, 2), (19, 7, 1)]
theorem fpi_Row : ∀ q ∈ FPi_Row, ∃ ty, ab_fldp CL ab_gW "StreamTransport$Row" "<init>" q.1 q.2.1 q.2.2 ty ∧ ∀ (k t r k' d' : Nat), ab_fs KT q.2.1 q.2.2 k = some (t, r, k', d') → (t = 0 → ty = .int) ∧ (t = 1 → ty = .boolean) ∧ (t = 2 → ((∃ n, ty = .object n) ∨ ∃ t, ty = .array t) ∧ k' ≠ 0) := ab_fpb_ok (own := "StreamTransport$Row") (nm := "<init>") (l := FPip_Row) (by decide +kernel)
def LCp_Row : List ((Nat × Int32) × Nat) := [((38, 40503), 587), ((39, 16777619), 588), ((40, 65535), 589)]
def LC_Row : List (Nat × Int32) := [(38, 40503), (39, 16777619), (40, 65535)]
theorem lc_Row : ∀ q ∈ LC_Row, Cond.constant "StreamTransport$Row" q.1 q.2 ∈ ab_gW := ab_lcb (own := "StreamTransport$Row") (l := LCp_Row) (by decide +kernel)
def LJp_Row : List ((Nat × Nat) × Nat) := []
def LJ_Row : List (Nat × Nat) := []
theorem lj_Row : ∀ q ∈ LJ_Row, Cond.constantLong "StreamTransport$Row" q.1 (Int64.ofNat q.2) ∈ ab_gW := ab_ljb (own := "StreamTransport$Row") (l := LJp_Row) (by decide +kernel)
def NWp_Row : List ((Nat × Nat) × Nat × Nat × Nat) := []
def NW_Row : List (Nat × Nat) := []
theorem nw_Row : ∀ q ∈ NW_Row, ab_newok KT CL ab_gW "StreamTransport$Row" q.1 q.2 := ab_nwb_ok (own := "StreamTransport$Row") (l := NWp_Row) (by decide +kernel)
def NQp_Row : List ((Nat × Nat) × Nat) := []
def NQ_Row : List (Nat × Nat) := []
theorem nq_Row : ∀ q ∈ NQ_Row, ab_nqok KT CL ab_gW "StreamTransport$Row" q.1 q.2 := ab_nqb_ok (own := "StreamTransport$Row") (l := NQp_Row) (by decide +kernel)
def NA_Row : List (Nat × Nat) := [(0, 5)]
theorem na_Row : ∀ q ∈ NA_Row, (q.1 = 0 → ab_naok KT CL ab_gW .int q.2) ∧ (q.1 = 1 → ab_naok KT CL ab_gW .boolean q.2) ∧ (q.1 = 2 → ab_naok KT CL ab_gW .long q.2) := ab_nab_ok (by decide +kernel)
/-! StreamTransport$Row.roomLeft()I -/
def y_Row_roomLeft : MethodName := ⟨"StreamTransport$Row", "roomLeft", "()I"⟩
def t_Row_roomLeft (pc : Nat) : Option Ent :=
  bif Nat.blt pc 3 then
    (bif Nat.blt pc 2 then
      (bif Nat.beq pc 0 then some (.bipush 38, 0, 0, 0, 38) else none)
    else
      bif Nat.beq pc 2 then some (.aload_n 0, 0, 0, 0, 0) else none)
  else
    bif Nat.blt pc 6 then
      (bif Nat.beq pc 3 then some (.getfield 19, 7, 1, 0, 0) else none)
    else
      bif Nat.blt pc 7 then
        (bif Nat.beq pc 6 then some (.isub, 0, 0, 0, 0) else none)
      else
        bif Nat.beq pc 7 then some (.ireturn, 0, 0, 0, 0) else none
def i_Row_roomLeft : Nat → Option Ent := ab_tab 8 t_Row_roomLeft
def h_Row_roomLeft (pc : Nat) : Nat × List Bool := (0, [])
def s_Row_roomLeft (pc : Nat) : List (Int32 × Nat) × Nat := ([], 0)
noncomputable def eV_Row_roomLeft : Nat → List AV → Mm → Option Mm := ab_ev []
noncomputable def eI_Row_roomLeft : Nat → List AV → Mm → Option (Int32 × Mm) := ab_ev []
noncomputable def b_Row_roomLeft_0 (f : Nat) (v0 : Nat) (m : Mm) : Option Rs := ab_ex KT none s_Row_roomLeft eV_Row_roomLeft eI_Row_roomLeft i_Row_roomLeft h_Row_roomLeft f 0 [some (.inr (.inr (4, some v0)))] [] m
set_option maxRecDepth 100000 in
set_option maxHeartbeats 4000000 in
theorem b_Row_roomLeft_0_eq (f : Nat) (v0 : Nat) (m : Mm) : b_Row_roomLeft_0 (f + 1) v0 m =
    some (.inl (some (.inl ((38 : Int32) - (m.1 11 v0 0))), m)) := rfl
noncomputable def r_Row_roomLeft : Nat → Mm → Option (Int32 × Mm) := ab_seal fun v0 m => ab_rI (b_Row_roomLeft_0 50000 v0 m)
theorem r_Row_roomLeft_eq (v0 : Nat) (m : Mm) : r_Row_roomLeft v0 m = ab_rI (b_Row_roomLeft_0 50000 v0 m) := by
  unfold r_Row_roomLeft
  rw [ab_seal_eq]
noncomputable def c_Row_roomLeft : List AV → Mm → Option (Int32 × Mm) := fun av m => match av with
  | [.inr (.inr (kv0, ov0))] => if kv0 = 4 then (ov0.bind fun v0 => r_Row_roomLeft v0 m) else none
  | _ => none
theorem c_Row_roomLeft_inv {av : List AV} {m : Mm} {r : Int32 × Mm} (h : c_Row_roomLeft av m = some r) : ∃ (v0 : Nat), av = [.inr (.inr (4, some v0))] ∧ r_Row_roomLeft v0 m = some r := by
  unfold c_Row_roomLeft at h
  split at h
  · rename_i kv0 ov0
    by_cases hkv0 : kv0 = 4
    case neg => rw [if_neg hkv0] at h; cases h
    rw [if_pos hkv0] at h
    subst hkv0
    obtain ⟨v0, hev0, h⟩ := Option.bind_eq_some_iff.mp h
    subst hev0
    exact ⟨v0, rfl, h⟩
  · cases h
def cs_Row_roomLeft : List Nat := []
set_option maxRecDepth 100000 in
theorem E_Row_roomLeft : ∀ (pc : Nat) (q : Ent), i_Row_roomLeft pc = some q → ab_E KT CL ab_gW "StreamTransport$Row" "roomLeft" (some .int) prog_9_method_6_code s_Row_roomLeft 1 pc q.1 q.2.1 q.2.2.1 q.2.2.2.1 q.2.2.2.2 := fun pc q hq =>
  ab_Eb_ok lc_Row lj_Row fl_Row (fpn_Row "roomLeft") nw_Row na_Row nq_Row (ab_tab_all (t := t_Row_roomLeft) (chk := fun pc q => ab_Eb (some .int) prog_9_method_6_code s_Row_roomLeft 1 LC_Row LJ_Row FL_Row FPn_Row NW_Row NA_Row NQ_Row pc q.1 q.2.1 q.2.2.1 q.2.2.2.1 q.2.2.2.2) (by decide +kernel) hq)
set_option maxRecDepth 100000 in
theorem kp_Row_roomLeft {av : List AV} {m : Mm} {r : Int32 × Mm} (h : c_Row_roomLeft av m = some r) : ab_kp m r.2 := by
  obtain ⟨v0, -, h⟩ := c_Row_roomLeft_inv h
  rw [r_Row_roomLeft_eq] at h
  have hV : ∀ a av m m', eV_Row_roomLeft a av m = some m' → ab_kp m m' := ab_ev_all (P := fun _ m r => ab_kp m r) [] (fun q hq => by cases hq)
  have hI : ∀ a av m q, eI_Row_roomLeft a av m = some q → ab_kp m q.2 := ab_ev_all (P := fun _ (m : Mm) (r : Int32 × Mm) => ab_kp m r.2) [] (fun q hq => by cases hq)
  exact ab_kprel (ρ := .inl (some (.inl r.1), r.2)) (ab_tab_isn (t := t_Row_roomLeft) (by decide +kernel)) hV hI (ab_rI_inv h)
set_option maxRecDepth 100000 in
theorem cl_Row_roomLeft (l : Launch) : ∀ (pc : Nat) (q : Ent), i_Row_roomLeft pc = some q → ab_inv q.1 = true → ab_CR l KT CL none ab_gW "StreamTransport$Row" prog_9_method_6_code 1 0 0 eV_Row_roomLeft eI_Row_roomLeft pc q := by
  intro pc q hq hi
  have hm : pc ∈ cs_Row_roomLeft := ab_tab_cs (t := t_Row_roomLeft) (by decide +kernel) hq hi
  cases hm
theorem cw_Row_roomLeft : ab_cw y_Row_roomLeft prog_9_method_6_code 1 0 (some .int) := ⟨ab_gW_in 514 (by decide +kernel) rfl, ab_gW_in 62 (by decide +kernel) rfl, by decide +kernel, by decide +kernel, by decide +kernel⟩
theorem is_Row_roomLeft : Cond.instanceMethod y_Row_roomLeft ∈ ab_gW := ab_gW_in 512 (by decide +kernel) rfl
theorem sl_Row_roomLeft : Cond.selects "StreamTransport$Row" y_Row_roomLeft y_Row_roomLeft ∈ ab_gW := ab_gW_in 513 (by decide +kernel) rfl
set_option maxRecDepth 100000 in
theorem cm_Row_roomLeft (l : Launch) {av : List AV} {m : Mm} {r : Int32 × Mm} (h0 : c_Row_roomLeft av m = some r) : ∃ (k q : Nat) (av' : List AV) (ci : Nat) (fs : List (Nat × Nat × Nat × Nat)) (z : vw_C), av = .inr (.inr (k, some q)) :: av' ∧ av'.length = 0 ∧ k ≠ 0 ∧ KT[k]? = some (.inl (ci, fs)) ∧ CL[ci]? = some z ∧ z.1 = "StreamTransport$Row" ∧ ab_nos av' ∧ ab_Met l KT CL y_Row_roomLeft (Cond.code y_Row_roomLeft prog_9_method_6_code 1 (some .int) :: ab_gW) 0 0 none av m (some (.inl r.1)) r.2 := by
  obtain ⟨v0, hav, h⟩ := c_Row_roomLeft_inv h0
  rw [r_Row_roomLeft_eq] at h
  have hmo : ab_mo m r.2 := ab_kp_mo (kp_Row_roomLeft h0)
  subst hav
  exact ⟨_, _, _, _, _, _, rfl, rfl, by decide, rfl, rfl, rfl, (by intro v hv q e; subst e; simp at hv), ab_met (by decide +kernel) KT_0 KT_nd KT_k3 E_Row_roomLeft (cl_Row_roomLeft l) hmo (Nat.le_of_ble_eq_true rfl) (ab_rI_inv h) (fun v hv => by cases hv; exact ⟨_, rfl⟩)⟩
/-! StreamTransport$Row.hasRoomFor(I)Z -/
def y_Row_hasRoomFor : MethodName := ⟨"StreamTransport$Row", "hasRoomFor", "(I)Z"⟩
def t_Row_hasRoomFor (pc : Nat) : Option Ent :=
  bif Nat.blt pc 8 then
    (bif Nat.blt pc 2 then
      (bif Nat.blt pc 1 then
        (bif Nat.beq pc 0 then some (.iload_n 1, 1, 0, 0, 0) else none)
      else
        bif Nat.beq pc 1 then some (.aload_n 0, 0, 0, 0, 0) else none)
    else
      bif Nat.blt pc 5 then
        (bif Nat.beq pc 2 then some (.invokevirtual 30, 6, 1, 1, 0) else none)
      else
        bif Nat.beq pc 5 then some (.if_icmp .gt (7), 12, 0, 0, 0) else none)
  else
    bif Nat.blt pc 12 then
      (bif Nat.blt pc 9 then
        (bif Nat.beq pc 8 then some (.iconst 1, 0, 0, 0, 1) else none)
      else
        bif Nat.beq pc 9 then some (.goto 4, 13, 0, 0, 0) else none)
    else
      bif Nat.blt pc 13 then
        (bif Nat.beq pc 12 then some (.iconst 0, 0, 0, 0, 0) else none)
      else
        bif Nat.beq pc 13 then some (.ireturn, 0, 0, 1, 0) else none
def i_Row_hasRoomFor : Nat → Option Ent := ab_tab 14 t_Row_hasRoomFor
def h_Row_hasRoomFor (pc : Nat) : Nat × List Bool := (0, [])
def s_Row_hasRoomFor (pc : Nat) : List (Int32 × Nat) × Nat := ([], 0)
noncomputable def eV_Row_hasRoomFor : Nat → List AV → Mm → Option Mm := ab_ev []
noncomputable def eI_Row_hasRoomFor : Nat → List AV → Mm → Option (Int32 × Mm) := ab_ev [(6, c_Row_roomLeft)]
noncomputable def b_Row_hasRoomFor_0 (f : Nat) (v0 : Nat) (v1 : Int32) (m : Mm) : Option Rs := ab_ex KT none s_Row_hasRoomFor eV_Row_hasRoomFor eI_Row_hasRoomFor i_Row_hasRoomFor h_Row_hasRoomFor f 0 [some (.inr (.inr (4, some v0))), some (.inl v1)] [] m
set_option maxRecDepth 100000 in
set_option maxHeartbeats 4000000 in
theorem b_Row_hasRoomFor_0_eq (f : Nat) (v0 : Nat) (v1 : Int32) (m : Mm) : b_Row_hasRoomFor_0 (f + 1) v0 v1 m =
    (r_Row_roomLeft v0 m).bind fun z1 =>
    if z1.1 < v1 then
      (ab_bo (0 : Int32)).bind fun y2 => some (.inl (some (.inl y2), z1.2))
    else
      (ab_bo (1 : Int32)).bind fun y3 => some (.inl (some (.inl y3), z1.2)) := rfl
noncomputable def r_Row_hasRoomFor : Nat → Int32 → Mm → Option (Int32 × Mm) := ab_seal fun v0 v1 m => ab_rI (b_Row_hasRoomFor_0 50000 v0 v1 m)
theorem r_Row_hasRoomFor_eq (v0 : Nat) (v1 : Int32) (m : Mm) : r_Row_hasRoomFor v0 v1 m = ab_rI (b_Row_hasRoomFor_0 50000 v0 v1 m) := by
  unfold r_Row_hasRoomFor
  rw [ab_seal_eq]
noncomputable def c_Row_hasRoomFor : List AV → Mm → Option (Int32 × Mm) := fun av m => match av with
  | [.inr (.inr (kv0, ov0)), .inl v1] => if kv0 = 4 then (ov0.bind fun v0 => r_Row_hasRoomFor v0 v1 m) else none
  | _ => none
theorem c_Row_hasRoomFor_inv {av : List AV} {m : Mm} {r : Int32 × Mm} (h : c_Row_hasRoomFor av m = some r) : ∃ (v0 : Nat) (v1 : Int32), av = [.inr (.inr (4, some v0)), .inl v1] ∧ r_Row_hasRoomFor v0 v1 m = some r := by
  unfold c_Row_hasRoomFor at h
  split at h
  · rename_i kv0 ov0 v1
    by_cases hkv0 : kv0 = 4
    case neg => rw [if_neg hkv0] at h; cases h
    rw [if_pos hkv0] at h
    subst hkv0
    obtain ⟨v0, hev0, h⟩ := Option.bind_eq_some_iff.mp h
    subst hev0
    exact ⟨v0, v1, rfl, h⟩
  · cases h
def cs_Row_hasRoomFor : List Nat := [2]
set_option maxRecDepth 100000 in
theorem E_Row_hasRoomFor : ∀ (pc : Nat) (q : Ent), i_Row_hasRoomFor pc = some q → ab_E KT CL ab_gW "StreamTransport$Row" "hasRoomFor" (some .boolean) prog_9_method_5_code s_Row_hasRoomFor 2 pc q.1 q.2.1 q.2.2.1 q.2.2.2.1 q.2.2.2.2 := fun pc q hq =>
  ab_Eb_ok lc_Row lj_Row fl_Row (fpn_Row "hasRoomFor") nw_Row na_Row nq_Row (ab_tab_all (t := t_Row_hasRoomFor) (chk := fun pc q => ab_Eb (some .boolean) prog_9_method_5_code s_Row_hasRoomFor 2 LC_Row LJ_Row FL_Row FPn_Row NW_Row NA_Row NQ_Row pc q.1 q.2.1 q.2.2.1 q.2.2.2.1 q.2.2.2.2) (by decide +kernel) hq)
set_option maxRecDepth 100000 in
theorem kp_Row_hasRoomFor {av : List AV} {m : Mm} {r : Int32 × Mm} (h : c_Row_hasRoomFor av m = some r) : ab_kp m r.2 := by
  obtain ⟨v0, v1, -, h⟩ := c_Row_hasRoomFor_inv h
  rw [r_Row_hasRoomFor_eq] at h
  have hV : ∀ a av m m', eV_Row_hasRoomFor a av m = some m' → ab_kp m m' := ab_ev_all (P := fun _ m r => ab_kp m r) [] (fun q hq => by cases hq)
  have hI : ∀ a av m q, eI_Row_hasRoomFor a av m = some q → ab_kp m q.2 := ab_ev_all (P := fun _ (m : Mm) (r : Int32 × Mm) => ab_kp m r.2) [(6, c_Row_roomLeft)] (List.forall_mem_cons.mpr ⟨fun av m r h => kp_Row_roomLeft h, fun q hq => by cases hq⟩)
  exact ab_kprel (ρ := .inl (some (.inl r.1), r.2)) (ab_tab_isn (t := t_Row_hasRoomFor) (by decide +kernel)) hV hI (ab_rI_inv h)
set_option maxRecDepth 100000 in
theorem cl_Row_hasRoomFor (l : Launch) : ∀ (pc : Nat) (q : Ent), i_Row_hasRoomFor pc = some q → ab_inv q.1 = true → ab_CR l KT CL none ab_gW "StreamTransport$Row" prog_9_method_5_code 2 1 20 eV_Row_hasRoomFor eI_Row_hasRoomFor pc q := by
  intro pc q hq hi
  have hm : pc ∈ cs_Row_hasRoomFor := ab_tab_cs (t := t_Row_hasRoomFor) (by decide +kernel) hq hi
  simp only [cs_Row_hasRoomFor, List.mem_cons, List.not_mem_nil, or_false] at hm
  rcases hm with rfl
  · cases (Option.some.inj hq : ((.invokevirtual 30, 6, 1, 1, 0) : Ent) = q)
    exact ab_crV (C := "StreamTransport$Row") (by decide +kernel) cw_Row_roomLeft (ab_gW_in 511 (by decide +kernel) rfl) is_Row_roomLeft sl_Row_roomLeft (by decide) (fun av m m' h => by cases h) (fun av m r h => cm_Row_roomLeft l h) KT_nd
theorem cw_Row_hasRoomFor : ab_cw y_Row_hasRoomFor prog_9_method_5_code 2 1 (some .boolean) := ⟨ab_gW_in 510 (by decide +kernel) rfl, ab_gW_in 62 (by decide +kernel) rfl, by decide +kernel, by decide +kernel, by decide +kernel⟩
theorem is_Row_hasRoomFor : Cond.instanceMethod y_Row_hasRoomFor ∈ ab_gW := ab_gW_in 508 (by decide +kernel) rfl
theorem sl_Row_hasRoomFor : Cond.selects "StreamTransport$Row" y_Row_hasRoomFor y_Row_hasRoomFor ∈ ab_gW := ab_gW_in 509 (by decide +kernel) rfl
set_option maxRecDepth 100000 in
theorem cm_Row_hasRoomFor (l : Launch) {av : List AV} {m : Mm} {r : Int32 × Mm} (h0 : c_Row_hasRoomFor av m = some r) : ∃ (k q : Nat) (av' : List AV) (ci : Nat) (fs : List (Nat × Nat × Nat × Nat)) (z : vw_C), av = .inr (.inr (k, some q)) :: av' ∧ av'.length = 1 ∧ k ≠ 0 ∧ KT[k]? = some (.inl (ci, fs)) ∧ CL[ci]? = some z ∧ z.1 = "StreamTransport$Row" ∧ ab_nos av' ∧ ab_Met l KT CL y_Row_hasRoomFor (Cond.code y_Row_hasRoomFor prog_9_method_5_code 2 (some .boolean) :: ab_gW) 1 20 none av m (some (.inl r.1)) r.2 := by
  obtain ⟨v0, v1, hav, h⟩ := c_Row_hasRoomFor_inv h0
  rw [r_Row_hasRoomFor_eq] at h
  have hmo : ab_mo m r.2 := ab_kp_mo (kp_Row_hasRoomFor h0)
  subst hav
  exact ⟨_, _, _, _, _, _, rfl, rfl, by decide, rfl, rfl, rfl, (by intro v hv q e; subst e; simp at hv), ab_met (by decide +kernel) KT_0 KT_nd KT_k3 E_Row_hasRoomFor (cl_Row_hasRoomFor l) hmo (Nat.le_of_ble_eq_true rfl) (ab_rI_inv h) (fun v hv => by cases hv; exact ⟨_, rfl⟩)⟩
/-! StreamTransport$Row.put(I)V -/
def y_Row_put : MethodName := ⟨"StreamTransport$Row", "put", "(I)V"⟩
def t_Row_put (pc : Nat) : Option Ent :=
  bif Nat.blt pc 18 then
    (bif Nat.blt pc 9 then
      (bif Nat.blt pc 4 then
        (bif Nat.blt pc 1 then
          (bif Nat.beq pc 0 then some (.aload_n 0, 0, 0, 0, 0) else none)
        else
          bif Nat.beq pc 1 then some (.getfield 19, 7, 1, 0, 0) else none)
      else
        bif Nat.blt pc 6 then
          (bif Nat.beq pc 4 then some (.bipush 40, 0, 0, 0, 40) else none)
        else
          bif Nat.beq pc 6 then some (.if_icmp .ge (27), 33, 0, 0, 0) else none)
    else
      bif Nat.blt pc 13 then
        (bif Nat.blt pc 10 then
          (bif Nat.beq pc 9 then some (.aload_n 0, 0, 0, 0, 0) else none)
        else
          bif Nat.beq pc 10 then some (.getfield 9, 7, 0, 1, 0) else none)
      else
        bif Nat.blt pc 14 then
          (bif Nat.beq pc 13 then some (.aload_n 0, 0, 0, 0, 0) else none)
        else
          bif Nat.blt pc 17 then
            (bif Nat.beq pc 14 then some (.getfield 19, 7, 1, 0, 0) else none)
          else
            bif Nat.beq pc 17 then some (.iload_n 1, 1, 0, 0, 0) else none)
  else
    bif Nat.blt pc 25 then
      (bif Nat.blt pc 22 then
        (bif Nat.blt pc 21 then
          (bif Nat.beq pc 18 then some (.sipush 255, 0, 0, 0, 255) else none)
        else
          bif Nat.beq pc 21 then some (.iand, 0, 0, 0, 0) else none)
      else
        bif Nat.blt pc 23 then
          (bif Nat.beq pc 22 then some (.iastore, 0, 0, 0, 0) else none)
        else
          bif Nat.blt pc 24 then
            (bif Nat.beq pc 23 then some (.aload_n 0, 0, 0, 0, 0) else none)
          else
            bif Nat.beq pc 24 then some (.dup, 0, 0, 1, 0) else none)
    else
      bif Nat.blt pc 29 then
        (bif Nat.blt pc 28 then
          (bif Nat.beq pc 25 then some (.getfield 19, 7, 1, 0, 0) else none)
        else
          bif Nat.beq pc 28 then some (.iconst 1, 0, 0, 0, 1) else none)
      else
        bif Nat.blt pc 30 then
          (bif Nat.beq pc 29 then some (.iadd, 0, 0, 0, 0) else none)
        else
          bif Nat.blt pc 33 then
            (bif Nat.beq pc 30 then some (.putfield 19, 7, 1, 0, 0) else none)
          else
            bif Nat.beq pc 33 then some (.return_, 0, 0, 0, 0) else none
def i_Row_put : Nat → Option Ent := ab_tab 34 t_Row_put
def h_Row_put (pc : Nat) : Nat × List Bool := (0, [])
def s_Row_put (pc : Nat) : List (Int32 × Nat) × Nat := ([], 0)
noncomputable def eV_Row_put : Nat → List AV → Mm → Option Mm := ab_ev []
noncomputable def eI_Row_put : Nat → List AV → Mm → Option (Int32 × Mm) := ab_ev []
noncomputable def b_Row_put_0 (f : Nat) (v0 : Nat) (v1 : Int32) (m : Mm) : Option Rs := ab_ex KT none s_Row_put eV_Row_put eI_Row_put i_Row_put h_Row_put f 0 [some (.inr (.inr (4, some v0))), some (.inl v1)] [] m
set_option maxRecDepth 100000 in
set_option maxHeartbeats 4000000 in
theorem b_Row_put_0_eq (f : Nat) (v0 : Nat) (v1 : Int32) (m : Mm) : b_Row_put_0 (f + 1) v0 v1 m =
    if (40 : Int32) ≤ (m.1 11 v0 0) then
      some (.inl (none, m))
    else
      (ab_ix (m.1 11 v0 0) 40).bind fun i1 =>
      ab_let (ab_uI m 13 (v0 + 1) i1 (v1 &&& (255 : Int32))) fun m2 =>
      ab_let (ab_uI m2 11 v0 0 ((m2.1 11 v0 0) + (1 : Int32))) fun m3 =>
      some (.inl (none, m3)) := rfl
noncomputable def r_Row_put : Nat → Int32 → Mm → Option Mm := ab_seal fun v0 v1 m => ab_rV (b_Row_put_0 50000 v0 v1 m)
theorem r_Row_put_eq (v0 : Nat) (v1 : Int32) (m : Mm) : r_Row_put v0 v1 m = ab_rV (b_Row_put_0 50000 v0 v1 m) := by
  unfold r_Row_put
  rw [ab_seal_eq]
noncomputable def c_Row_put : List AV → Mm → Option Mm := fun av m => match av with
  | [.inr (.inr (kv0, ov0)), .inl v1] => if kv0 = 4 then (ov0.bind fun v0 => r_Row_put v0 v1 m) else none
  | _ => none
theorem c_Row_put_inv {av : List AV} {m : Mm} {r : Mm} (h : c_Row_put av m = some r) : ∃ (v0 : Nat) (v1 : Int32), av = [.inr (.inr (4, some v0)), .inl v1] ∧ r_Row_put v0 v1 m = some r := by
  unfold c_Row_put at h
  split at h
  · rename_i kv0 ov0 v1
    by_cases hkv0 : kv0 = 4
    case neg => rw [if_neg hkv0] at h; cases h
    rw [if_pos hkv0] at h
    subst hkv0
    obtain ⟨v0, hev0, h⟩ := Option.bind_eq_some_iff.mp h
    subst hev0
    exact ⟨v0, v1, rfl, h⟩
  · cases h
def cs_Row_put : List Nat := []
set_option maxRecDepth 100000 in
theorem E_Row_put : ∀ (pc : Nat) (q : Ent), i_Row_put pc = some q → ab_E KT CL ab_gW "StreamTransport$Row" "put" none prog_9_method_3_code s_Row_put 2 pc q.1 q.2.1 q.2.2.1 q.2.2.2.1 q.2.2.2.2 := fun pc q hq =>
  ab_Eb_ok lc_Row lj_Row fl_Row (fpn_Row "put") nw_Row na_Row nq_Row (ab_tab_all (t := t_Row_put) (chk := fun pc q => ab_Eb none prog_9_method_3_code s_Row_put 2 LC_Row LJ_Row FL_Row FPn_Row NW_Row NA_Row NQ_Row pc q.1 q.2.1 q.2.2.1 q.2.2.2.1 q.2.2.2.2) (by decide +kernel) hq)
set_option maxRecDepth 100000 in
theorem kp_Row_put {av : List AV} {m : Mm} {r : Mm} (h : c_Row_put av m = some r) : ab_kp m r := by
  obtain ⟨v0, v1, -, h⟩ := c_Row_put_inv h
  rw [r_Row_put_eq] at h
  have hV : ∀ a av m m', eV_Row_put a av m = some m' → ab_kp m m' := ab_ev_all (P := fun _ m r => ab_kp m r) [] (fun q hq => by cases hq)
  have hI : ∀ a av m q, eI_Row_put a av m = some q → ab_kp m q.2 := ab_ev_all (P := fun _ (m : Mm) (r : Int32 × Mm) => ab_kp m r.2) [] (fun q hq => by cases hq)
  exact ab_kprel (ρ := .inl (none, r)) (ab_tab_isn (t := t_Row_put) (by decide +kernel)) hV hI (ab_rV_inv h)
set_option maxRecDepth 100000 in
theorem cl_Row_put (l : Launch) : ∀ (pc : Nat) (q : Ent), i_Row_put pc = some q → ab_inv q.1 = true → ab_CR l KT CL none ab_gW "StreamTransport$Row" prog_9_method_3_code 2 0 0 eV_Row_put eI_Row_put pc q := by
  intro pc q hq hi
  have hm : pc ∈ cs_Row_put := ab_tab_cs (t := t_Row_put) (by decide +kernel) hq hi
  cases hm
theorem cw_Row_put : ab_cw y_Row_put prog_9_method_3_code 2 1 none := ⟨ab_gW_in 452 (by decide +kernel) rfl, ab_gW_in 62 (by decide +kernel) rfl, by decide +kernel, by decide +kernel, by decide +kernel⟩
theorem is_Row_put : Cond.instanceMethod y_Row_put ∈ ab_gW := ab_gW_in 450 (by decide +kernel) rfl
theorem sl_Row_put : Cond.selects "StreamTransport$Row" y_Row_put y_Row_put ∈ ab_gW := ab_gW_in 451 (by decide +kernel) rfl
set_option maxRecDepth 100000 in
theorem cm_Row_put (l : Launch) {av : List AV} {m : Mm} {r : Mm} (h0 : c_Row_put av m = some r) : ∃ (k q : Nat) (av' : List AV) (ci : Nat) (fs : List (Nat × Nat × Nat × Nat)) (z : vw_C), av = .inr (.inr (k, some q)) :: av' ∧ av'.length = 1 ∧ k ≠ 0 ∧ KT[k]? = some (.inl (ci, fs)) ∧ CL[ci]? = some z ∧ z.1 = "StreamTransport$Row" ∧ ab_nos av' ∧ ab_Met l KT CL y_Row_put (Cond.code y_Row_put prog_9_method_3_code 2 none :: ab_gW) 0 0 none av m none r := by
  obtain ⟨v0, v1, hav, h⟩ := c_Row_put_inv h0
  rw [r_Row_put_eq] at h
  have hmo : ab_mo m r := ab_kp_mo (kp_Row_put h0)
  subst hav
  exact ⟨_, _, _, _, _, _, rfl, rfl, by decide, rfl, rfl, rfl, (by intro v hv q e; subst e; simp at hv), ab_met (by decide +kernel) KT_0 KT_nd KT_k3 E_Row_put (cl_Row_put l) hmo (Nat.le_of_ble_eq_true rfl) (ab_rV_inv h) (fun v hv => by cases hv)⟩
/-! StreamTransport$Row.begin(II)V -/
def y_Row_begin : MethodName := ⟨"StreamTransport$Row", "begin", "(II)V"⟩
def t_Row_begin (pc : Nat) : Option Ent :=
  bif Nat.blt pc 10 then
    (bif Nat.blt pc 5 then
      (bif Nat.blt pc 1 then
        (bif Nat.beq pc 0 then some (.aload_n 0, 0, 0, 0, 0) else none)
      else
        bif Nat.blt pc 2 then
          (bif Nat.beq pc 1 then some (.iload_n 1, 1, 0, 0, 0) else none)
        else
          bif Nat.beq pc 2 then some (.putfield 15, 7, 2, 0, 0) else none)
    else
      bif Nat.blt pc 6 then
        (bif Nat.beq pc 5 then some (.aload_n 0, 0, 0, 0, 0) else none)
      else
        bif Nat.blt pc 7 then
          (bif Nat.beq pc 6 then some (.iconst 0, 0, 0, 0, 0) else none)
        else
          bif Nat.beq pc 7 then some (.putfield 19, 7, 1, 0, 0) else none)
  else
    bif Nat.blt pc 14 then
      (bif Nat.blt pc 11 then
        (bif Nat.beq pc 10 then some (.aload_n 0, 0, 0, 0, 0) else none)
      else
        bif Nat.blt pc 12 then
          (bif Nat.beq pc 11 then some (.iload_n 2, 2, 0, 0, 0) else none)
        else
          bif Nat.beq pc 12 then some (.bipush 16, 0, 0, 0, 16) else none)
    else
      bif Nat.blt pc 15 then
        (bif Nat.beq pc 14 then some (.irem, 0, 0, 0, 0) else none)
      else
        bif Nat.blt pc 18 then
          (bif Nat.beq pc 15 then some (.invokevirtual 22, 8, 2, 0, 0) else none)
        else
          bif Nat.beq pc 18 then some (.return_, 0, 0, 0, 0) else none
def i_Row_begin : Nat → Option Ent := ab_tab 19 t_Row_begin
def h_Row_begin (pc : Nat) : Nat × List Bool := (0, [])
def s_Row_begin (pc : Nat) : List (Int32 × Nat) × Nat := ([], 0)
noncomputable def eV_Row_begin : Nat → List AV → Mm → Option Mm := ab_ev [(8, c_Row_put)]
noncomputable def eI_Row_begin : Nat → List AV → Mm → Option (Int32 × Mm) := ab_ev []
noncomputable def b_Row_begin_0 (f : Nat) (v0 : Nat) (v1 : Int32) (v2 : Int32) (m : Mm) : Option Rs := ab_ex KT none s_Row_begin eV_Row_begin eI_Row_begin i_Row_begin h_Row_begin f 0 [some (.inr (.inr (4, some v0))), some (.inl v1), some (.inl v2)] [] m
set_option maxRecDepth 100000 in
set_option maxHeartbeats 4000000 in
theorem b_Row_begin_0_eq (f : Nat) (v0 : Nat) (v1 : Int32) (v2 : Int32) (m : Mm) : b_Row_begin_0 (f + 1) v0 v1 v2 m =
    ab_let (ab_uI m 12 v0 0 v1) fun m1 =>
    ab_let (ab_uI m1 11 v0 0 (0 : Int32)) fun m2 =>
    if (16 : Int32) = 0 then none else
    (r_Row_put v0 (v2 - v2 / (16 : Int32) * (16 : Int32)) m2).bind fun m3 =>
    some (.inl (none, m3)) := rfl
noncomputable def r_Row_begin : Nat → Int32 → Int32 → Mm → Option Mm := ab_seal fun v0 v1 v2 m => ab_rV (b_Row_begin_0 50000 v0 v1 v2 m)
theorem r_Row_begin_eq (v0 : Nat) (v1 : Int32) (v2 : Int32) (m : Mm) : r_Row_begin v0 v1 v2 m = ab_rV (b_Row_begin_0 50000 v0 v1 v2 m) := by
  unfold r_Row_begin
  rw [ab_seal_eq]
noncomputable def c_Row_begin : List AV → Mm → Option Mm := fun av m => match av with
  | [.inr (.inr (kv0, ov0)), .inl v1, .inl v2] => if kv0 = 4 then (ov0.bind fun v0 => r_Row_begin v0 v1 v2 m) else none
  | _ => none
theorem c_Row_begin_inv {av : List AV} {m : Mm} {r : Mm} (h : c_Row_begin av m = some r) : ∃ (v0 : Nat) (v1 : Int32) (v2 : Int32), av = [.inr (.inr (4, some v0)), .inl v1, .inl v2] ∧ r_Row_begin v0 v1 v2 m = some r := by
  unfold c_Row_begin at h
  split at h
  · rename_i kv0 ov0 v1 v2
    by_cases hkv0 : kv0 = 4
    case neg => rw [if_neg hkv0] at h; cases h
    rw [if_pos hkv0] at h
    subst hkv0
    obtain ⟨v0, hev0, h⟩ := Option.bind_eq_some_iff.mp h
    subst hev0
    exact ⟨v0, v1, v2, rfl, h⟩
  · cases h
def cs_Row_begin : List Nat := [15]
set_option maxRecDepth 100000 in
theorem E_Row_begin : ∀ (pc : Nat) (q : Ent), i_Row_begin pc = some q → ab_E KT CL ab_gW "StreamTransport$Row" "begin" none prog_9_method_2_code s_Row_begin 3 pc q.1 q.2.1 q.2.2.1 q.2.2.2.1 q.2.2.2.2 := fun pc q hq =>
  ab_Eb_ok lc_Row lj_Row fl_Row (fpn_Row "begin") nw_Row na_Row nq_Row (ab_tab_all (t := t_Row_begin) (chk := fun pc q => ab_Eb none prog_9_method_2_code s_Row_begin 3 LC_Row LJ_Row FL_Row FPn_Row NW_Row NA_Row NQ_Row pc q.1 q.2.1 q.2.2.1 q.2.2.2.1 q.2.2.2.2) (by decide +kernel) hq)
set_option maxRecDepth 100000 in
theorem kp_Row_begin {av : List AV} {m : Mm} {r : Mm} (h : c_Row_begin av m = some r) : ab_kp m r := by
  obtain ⟨v0, v1, v2, -, h⟩ := c_Row_begin_inv h
  rw [r_Row_begin_eq] at h
  have hV : ∀ a av m m', eV_Row_begin a av m = some m' → ab_kp m m' := ab_ev_all (P := fun _ m r => ab_kp m r) [(8, c_Row_put)] (List.forall_mem_cons.mpr ⟨fun av m r h => kp_Row_put h, fun q hq => by cases hq⟩)
  have hI : ∀ a av m q, eI_Row_begin a av m = some q → ab_kp m q.2 := ab_ev_all (P := fun _ (m : Mm) (r : Int32 × Mm) => ab_kp m r.2) [] (fun q hq => by cases hq)
  exact ab_kprel (ρ := .inl (none, r)) (ab_tab_isn (t := t_Row_begin) (by decide +kernel)) hV hI (ab_rV_inv h)
set_option maxRecDepth 100000 in
theorem cl_Row_begin (l : Launch) : ∀ (pc : Nat) (q : Ent), i_Row_begin pc = some q → ab_inv q.1 = true → ab_CR l KT CL none ab_gW "StreamTransport$Row" prog_9_method_2_code 3 1 21 eV_Row_begin eI_Row_begin pc q := by
  intro pc q hq hi
  have hm : pc ∈ cs_Row_begin := ab_tab_cs (t := t_Row_begin) (by decide +kernel) hq hi
  simp only [cs_Row_begin, List.mem_cons, List.not_mem_nil, or_false] at hm
  rcases hm with rfl
  · cases (Option.some.inj hq : ((.invokevirtual 22, 8, 2, 0, 0) : Ent) = q)
    exact ab_crV (C := "StreamTransport$Row") (by decide +kernel) cw_Row_put (ab_gW_in 449 (by decide +kernel) rfl) is_Row_put sl_Row_put (by decide) (fun av m m' h => cm_Row_put l h) (fun av m r h => by cases h) KT_nd
theorem cw_Row_begin : ab_cw y_Row_begin prog_9_method_2_code 3 2 none := ⟨ab_gW_in 448 (by decide +kernel) rfl, ab_gW_in 62 (by decide +kernel) rfl, by decide +kernel, by decide +kernel, by decide +kernel⟩
theorem is_Row_begin : Cond.instanceMethod y_Row_begin ∈ ab_gW := ab_gW_in 446 (by decide +kernel) rfl
theorem sl_Row_begin : Cond.selects "StreamTransport$Row" y_Row_begin y_Row_begin ∈ ab_gW := ab_gW_in 447 (by decide +kernel) rfl
set_option maxRecDepth 100000 in
theorem cm_Row_begin (l : Launch) {av : List AV} {m : Mm} {r : Mm} (h0 : c_Row_begin av m = some r) : ∃ (k q : Nat) (av' : List AV) (ci : Nat) (fs : List (Nat × Nat × Nat × Nat)) (z : vw_C), av = .inr (.inr (k, some q)) :: av' ∧ av'.length = 2 ∧ k ≠ 0 ∧ KT[k]? = some (.inl (ci, fs)) ∧ CL[ci]? = some z ∧ z.1 = "StreamTransport$Row" ∧ ab_nos av' ∧ ab_Met l KT CL y_Row_begin (Cond.code y_Row_begin prog_9_method_2_code 3 none :: ab_gW) 1 21 none av m none r := by
  obtain ⟨v0, v1, v2, hav, h⟩ := c_Row_begin_inv h0
  rw [r_Row_begin_eq] at h
  have hmo : ab_mo m r := ab_kp_mo (kp_Row_begin h0)
  subst hav
  exact ⟨_, _, _, _, _, _, rfl, rfl, by decide, rfl, rfl, rfl, (by intro v hv q e; subst e; simp at hv), ab_met (by decide +kernel) KT_0 KT_nd KT_k3 E_Row_begin (cl_Row_begin l) hmo (Nat.le_of_ble_eq_true rfl) (ab_rV_inv h) (fun v hv => by cases hv)⟩
/-! StreamTransport$Row.putNumber(I)V -/
def y_Row_putNumber : MethodName := ⟨"StreamTransport$Row", "putNumber", "(I)V"⟩
def t_Row_putNumber (pc : Nat) : Option Ent :=
  bif Nat.blt pc 34 then
    (bif Nat.blt pc 16 then
      (bif Nat.blt pc 7 then
        (bif Nat.blt pc 4 then
          (bif Nat.blt pc 1 then
            (bif Nat.beq pc 0 then some (.iload_n 1, 1, 0, 0, 0) else none)
          else
            bif Nat.beq pc 1 then some (.invokestatic 26, 4, 1, 1, 0) else none)
        else
          bif Nat.blt pc 5 then
            (bif Nat.beq pc 4 then some (.iconst 1, 0, 0, 0, 1) else none)
          else
            bif Nat.blt pc 6 then
              (bif Nat.beq pc 5 then some (.isub, 0, 0, 0, 0) else none)
            else
              bif Nat.beq pc 6 then some (.istore_n 2, 2, 0, 0, 0) else none)
      else
        bif Nat.blt pc 11 then
          (bif Nat.blt pc 8 then
            (bif Nat.beq pc 7 then some (.iload_n 2, 2, 0, 0, 0) else none)
          else
            bif Nat.beq pc 8 then some (.ifCond .ne (7), 15, 0, 0, 0) else none)
        else
          bif Nat.blt pc 12 then
            (bif Nat.beq pc 11 then some (.iconst 0, 0, 0, 0, 0) else none)
          else
            bif Nat.blt pc 15 then
              (bif Nat.beq pc 12 then some (.goto 16, 28, 0, 0, 0) else none)
            else
              bif Nat.beq pc 15 then some (.iload_n 2, 2, 0, 0, 0) else none)
    else
      bif Nat.blt pc 28 then
        (bif Nat.blt pc 20 then
          (bif Nat.blt pc 17 then
            (bif Nat.beq pc 16 then some (.iconst 1, 0, 0, 0, 1) else none)
          else
            bif Nat.beq pc 17 then some (.if_icmp .ne (8), 25, 0, 0, 0) else none)
        else
          bif Nat.blt pc 22 then
            (bif Nat.beq pc 20 then some (.bipush 64, 0, 0, 0, 64) else none)
          else
            bif Nat.blt pc 25 then
              (bif Nat.beq pc 22 then some (.goto 6, 28, 0, 0, 0) else none)
            else
              bif Nat.beq pc 25 then some (.sipush 128, 0, 0, 0, 128) else none)
      else
        bif Nat.blt pc 30 then
          (bif Nat.blt pc 29 then
            (bif Nat.beq pc 28 then some (.istore_n 3, 3, 0, 0, 0) else none)
          else
            bif Nat.beq pc 29 then some (.aload_n 0, 0, 0, 0, 0) else none)
        else
          bif Nat.blt pc 31 then
            (bif Nat.beq pc 30 then some (.iload_n 3, 3, 0, 0, 0) else none)
          else
            bif Nat.blt pc 32 then
              (bif Nat.beq pc 31 then some (.iload_n 1, 1, 0, 0, 0) else none)
            else
              bif Nat.beq pc 32 then some (.bipush 8, 0, 0, 0, 8) else none)
  else
    bif Nat.blt pc 48 then
      (bif Nat.blt pc 41 then
        (bif Nat.blt pc 36 then
          (bif Nat.blt pc 35 then
            (bif Nat.beq pc 34 then some (.iload_n 2, 2, 0, 0, 0) else none)
          else
            bif Nat.beq pc 35 then some (.imul, 0, 0, 0, 0) else none)
        else
          bif Nat.blt pc 37 then
            (bif Nat.beq pc 36 then some (.iushr, 0, 0, 0, 0) else none)
          else
            bif Nat.blt pc 38 then
              (bif Nat.beq pc 37 then some (.iadd, 0, 0, 0, 0) else none)
            else
              bif Nat.beq pc 38 then some (.invokevirtual 22, 8, 2, 0, 0) else none)
      else
        bif Nat.blt pc 43 then
          (bif Nat.blt pc 42 then
            (bif Nat.beq pc 41 then some (.iload_n 2, 2, 0, 0, 0) else none)
          else
            bif Nat.beq pc 42 then some (.iconst 1, 0, 0, 0, 1) else none)
        else
          bif Nat.blt pc 44 then
            (bif Nat.beq pc 43 then some (.isub, 0, 0, 0, 0) else none)
          else
            bif Nat.blt pc 46 then
              (bif Nat.beq pc 44 then some (.istore 4, 4, 0, 0, 0) else none)
            else
              bif Nat.beq pc 46 then some (.iload 4, 4, 0, 0, 0) else none)
    else
      bif Nat.blt pc 57 then
        (bif Nat.blt pc 52 then
          (bif Nat.blt pc 51 then
            (bif Nat.beq pc 48 then some (.ifCond .lt (20), 68, 0, 0, 0) else none)
          else
            bif Nat.beq pc 51 then some (.aload_n 0, 0, 0, 0, 0) else none)
        else
          bif Nat.blt pc 53 then
            (bif Nat.beq pc 52 then some (.iload_n 1, 1, 0, 0, 0) else none)
          else
            bif Nat.blt pc 55 then
              (bif Nat.beq pc 53 then some (.bipush 8, 0, 0, 0, 8) else none)
            else
              bif Nat.beq pc 55 then some (.iload 4, 4, 0, 0, 0) else none)
      else
        bif Nat.blt pc 62 then
          (bif Nat.blt pc 58 then
            (bif Nat.beq pc 57 then some (.imul, 0, 0, 0, 0) else none)
          else
            bif Nat.blt pc 59 then
              (bif Nat.beq pc 58 then some (.iushr, 0, 0, 0, 0) else none)
            else
              bif Nat.beq pc 59 then some (.invokevirtual 22, 8, 2, 0, 0) else none)
        else
          bif Nat.blt pc 65 then
            (bif Nat.beq pc 62 then some (.iinc 4 (-1), 4, 0, 0, -1) else none)
          else
            bif Nat.blt pc 68 then
              (bif Nat.beq pc 65 then some (.goto (-19), 46, 0, 0, 0) else none)
            else
              bif Nat.beq pc 68 then some (.return_, 0, 0, 0, 0) else none
def i_Row_putNumber : Nat → Option Ent := ab_tab 69 t_Row_putNumber
def h_Row_putNumber (pc : Nat) : Nat × List Bool := bif Nat.beq pc 28 then (1, [true, true, true, false, false]) else bif Nat.beq pc 46 then (1, [true, true, false, false, true]) else (0, [])
def s_Row_putNumber (pc : Nat) : List (Int32 × Nat) × Nat := ([], 0)
noncomputable def eV_Row_putNumber : Nat → List AV → Mm → Option Mm := ab_ev [(8, c_Row_put)]
noncomputable def eI_Row_putNumber : Nat → List AV → Mm → Option (Int32 × Mm) := ab_ev [(4, c_X_sizeOf)]
noncomputable def b_Row_putNumber_0 (f : Nat) (v0 : Nat) (v1 : Int32) (m : Mm) : Option Rs := ab_ex KT none s_Row_putNumber eV_Row_putNumber eI_Row_putNumber i_Row_putNumber h_Row_putNumber f 0 [some (.inr (.inr (4, some v0))), some (.inl v1), none, none, none] [] m
noncomputable def b_Row_putNumber_28 (f : Nat) (v0 : Nat) (v1 : Int32) (v2 : Int32) (u0 : Int32) (m : Mm) : Option Rs := ab_ex KT none s_Row_putNumber eV_Row_putNumber eI_Row_putNumber i_Row_putNumber h_Row_putNumber f 28 [some (.inr (.inr (4, some v0))), some (.inl v1), some (.inl v2), none, none] [.inl u0] m
noncomputable def b_Row_putNumber_46 (f : Nat) (v0 : Nat) (v1 : Int32) (v4 : Int32) (m : Mm) : Option Rs := ab_ex KT none s_Row_putNumber eV_Row_putNumber eI_Row_putNumber i_Row_putNumber h_Row_putNumber f 46 [some (.inr (.inr (4, some v0))), some (.inl v1), none, none, some (.inl v4)] [] m
set_option maxRecDepth 100000 in
set_option maxHeartbeats 4000000 in
theorem b_Row_putNumber_0_eq (f : Nat) (v0 : Nat) (v1 : Int32) (m : Mm) : b_Row_putNumber_0 (f + 1) v0 v1 m =
    (r_X_sizeOf v1 m).bind fun z1 =>
    ab_let ((z1.1 - (1 : Int32))) fun x2 =>
    if x2 = 0 then
      b_Row_putNumber_28 f v0 v1 x2 (0 : Int32) z1.2
    else
      if x2 = (1 : Int32) then
        b_Row_putNumber_28 f v0 v1 x2 (64 : Int32) z1.2
      else
        b_Row_putNumber_28 f v0 v1 x2 (128 : Int32) z1.2 := rfl
set_option maxRecDepth 100000 in
set_option maxHeartbeats 4000000 in
theorem b_Row_putNumber_28_eq (f : Nat) (v0 : Nat) (v1 : Int32) (v2 : Int32) (u0 : Int32) (m : Mm) : b_Row_putNumber_28 (f + 1) v0 v1 v2 u0 m =
    (r_Row_put v0 (u0 + ((v1).toUInt32 >>> ((((8 : Int32) * v2)).toUInt32 &&& Int32.toUInt32 31)).toInt32) m).bind fun m1 =>
    ab_let ((v2 - (1 : Int32))) fun x2 =>
    b_Row_putNumber_46 f v0 v1 x2 m1 := rfl
set_option maxRecDepth 100000 in
set_option maxHeartbeats 4000000 in
theorem b_Row_putNumber_46_eq (f : Nat) (v0 : Nat) (v1 : Int32) (v4 : Int32) (m : Mm) : b_Row_putNumber_46 (f + 1) v0 v1 v4 m =
    if v4 < 0 then
      some (.inl (none, m))
    else
      (r_Row_put v0 (((v1).toUInt32 >>> ((((8 : Int32) * v4)).toUInt32 &&& Int32.toUInt32 31)).toInt32) m).bind fun m1 =>
      ab_let (v4 + (-1 : Int32)) fun x2 =>
      b_Row_putNumber_46 f v0 v1 x2 m1 := rfl
noncomputable def r_Row_putNumber : Nat → Int32 → Mm → Option Mm := ab_seal fun v0 v1 m => ab_rV (b_Row_putNumber_0 50000 v0 v1 m)
theorem r_Row_putNumber_eq (v0 : Nat) (v1 : Int32) (m : Mm) : r_Row_putNumber v0 v1 m = ab_rV (b_Row_putNumber_0 50000 v0 v1 m) := by
  unfold r_Row_putNumber
  rw [ab_seal_eq]
noncomputable def c_Row_putNumber : List AV → Mm → Option Mm := fun av m => match av with
  | [.inr (.inr (kv0, ov0)), .inl v1] => if kv0 = 4 then (ov0.bind fun v0 => r_Row_putNumber v0 v1 m) else none
  | _ => none
theorem c_Row_putNumber_inv {av : List AV} {m : Mm} {r : Mm} (h : c_Row_putNumber av m = some r) : ∃ (v0 : Nat) (v1 : Int32), av = [.inr (.inr (4, some v0)), .inl v1] ∧ r_Row_putNumber v0 v1 m = some r := by
  unfold c_Row_putNumber at h
  split at h
  · rename_i kv0 ov0 v1
    by_cases hkv0 : kv0 = 4
    case neg => rw [if_neg hkv0] at h; cases h
    rw [if_pos hkv0] at h
    subst hkv0
    obtain ⟨v0, hev0, h⟩ := Option.bind_eq_some_iff.mp h
    subst hev0
    exact ⟨v0, v1, rfl, h⟩
  · cases h
def cs_Row_putNumber : List Nat := [1, 38, 59]
set_option maxRecDepth 100000 in
theorem E_Row_putNumber : ∀ (pc : Nat) (q : Ent), i_Row_putNumber pc = some q → ab_E KT CL ab_gW "StreamTransport$Row" "putNumber" none prog_9_method_4_code s_Row_putNumber 5 pc q.1 q.2.1 q.2.2.1 q.2.2.2.1 q.2.2.2.2 := fun pc q hq =>
  ab_Eb_ok lc_Row lj_Row fl_Row (fpn_Row "putNumber") nw_Row na_Row nq_Row (ab_tab_all (t := t_Row_putNumber) (chk := fun pc q => ab_Eb none prog_9_method_4_code s_Row_putNumber 5 LC_Row LJ_Row FL_Row FPn_Row NW_Row NA_Row NQ_Row pc q.1 q.2.1 q.2.2.1 q.2.2.2.1 q.2.2.2.2) (by decide +kernel) hq)
set_option maxRecDepth 100000 in
theorem kp_Row_putNumber {av : List AV} {m : Mm} {r : Mm} (h : c_Row_putNumber av m = some r) : ab_kp m r := by
  obtain ⟨v0, v1, -, h⟩ := c_Row_putNumber_inv h
  rw [r_Row_putNumber_eq] at h
  have hV : ∀ a av m m', eV_Row_putNumber a av m = some m' → ab_kp m m' := ab_ev_all (P := fun _ m r => ab_kp m r) [(8, c_Row_put)] (List.forall_mem_cons.mpr ⟨fun av m r h => kp_Row_put h, fun q hq => by cases hq⟩)
  have hI : ∀ a av m q, eI_Row_putNumber a av m = some q → ab_kp m q.2 := ab_ev_all (P := fun _ (m : Mm) (r : Int32 × Mm) => ab_kp m r.2) [(4, c_X_sizeOf)] (List.forall_mem_cons.mpr ⟨fun av m r h => kp_X_sizeOf h, fun q hq => by cases hq⟩)
  exact ab_kprel (ρ := .inl (none, r)) (ab_tab_isn (t := t_Row_putNumber) (by decide +kernel)) hV hI (ab_rV_inv h)
set_option maxRecDepth 100000 in
theorem cl_Row_putNumber (l : Launch) : ∀ (pc : Nat) (q : Ent), i_Row_putNumber pc = some q → ab_inv q.1 = true → ab_CR l KT CL none ab_gW "StreamTransport$Row" prog_9_method_4_code 5 1 21 eV_Row_putNumber eI_Row_putNumber pc q := by
  intro pc q hq hi
  have hm : pc ∈ cs_Row_putNumber := ab_tab_cs (t := t_Row_putNumber) (by decide +kernel) hq hi
  simp only [cs_Row_putNumber, List.mem_cons, List.not_mem_nil, or_false] at hm
  rcases hm with rfl | rfl | rfl
  · cases (Option.some.inj hq : ((.invokestatic 26, 4, 1, 1, 0) : Ent) = q)
    exact ab_crSN (by decide +kernel) cw_X_sizeOf (by decide +kernel) st_X_sizeOf (by decide) (fun av m m' h => by cases h) (fun av m r h => cm_X_sizeOf l h) KT_nd
  · cases (Option.some.inj hq : ((.invokevirtual 22, 8, 2, 0, 0) : Ent) = q)
    exact ab_crV (C := "StreamTransport$Row") (by decide +kernel) cw_Row_put (ab_gW_in 449 (by decide +kernel) rfl) is_Row_put sl_Row_put (by decide) (fun av m m' h => cm_Row_put l h) (fun av m r h => by cases h) KT_nd
  · cases (Option.some.inj hq : ((.invokevirtual 22, 8, 2, 0, 0) : Ent) = q)
    exact ab_crV (C := "StreamTransport$Row") (by decide +kernel) cw_Row_put (ab_gW_in 449 (by decide +kernel) rfl) is_Row_put sl_Row_put (by decide) (fun av m m' h => cm_Row_put l h) (fun av m r h => by cases h) KT_nd
theorem cw_Row_putNumber : ab_cw y_Row_putNumber prog_9_method_4_code 5 1 none := ⟨ab_gW_in 482 (by decide +kernel) rfl, ab_gW_in 62 (by decide +kernel) rfl, by decide +kernel, by decide +kernel, by decide +kernel⟩
theorem is_Row_putNumber : Cond.instanceMethod y_Row_putNumber ∈ ab_gW := ab_gW_in 480 (by decide +kernel) rfl
theorem sl_Row_putNumber : Cond.selects "StreamTransport$Row" y_Row_putNumber y_Row_putNumber ∈ ab_gW := ab_gW_in 481 (by decide +kernel) rfl
set_option maxRecDepth 100000 in
theorem cm_Row_putNumber (l : Launch) {av : List AV} {m : Mm} {r : Mm} (h0 : c_Row_putNumber av m = some r) : ∃ (k q : Nat) (av' : List AV) (ci : Nat) (fs : List (Nat × Nat × Nat × Nat)) (z : vw_C), av = .inr (.inr (k, some q)) :: av' ∧ av'.length = 1 ∧ k ≠ 0 ∧ KT[k]? = some (.inl (ci, fs)) ∧ CL[ci]? = some z ∧ z.1 = "StreamTransport$Row" ∧ ab_nos av' ∧ ab_Met l KT CL y_Row_putNumber (Cond.code y_Row_putNumber prog_9_method_4_code 5 none :: ab_gW) 1 21 none av m none r := by
  obtain ⟨v0, v1, hav, h⟩ := c_Row_putNumber_inv h0
  rw [r_Row_putNumber_eq] at h
  have hmo : ab_mo m r := ab_kp_mo (kp_Row_putNumber h0)
  subst hav
  exact ⟨_, _, _, _, _, _, rfl, rfl, by decide, rfl, rfl, rfl, (by intro v hv q e; subst e; simp at hv), ab_met (by decide +kernel) KT_0 KT_nd KT_k3 E_Row_putNumber (cl_Row_putNumber l) hmo (Nat.le_of_ble_eq_true rfl) (ab_rV_inv h) (fun v hv => by cases hv)⟩
/-! StreamTransport$Row.sealFor(II)I -/
def y_Row_sealFor : MethodName := ⟨"StreamTransport$Row", "sealFor", "(II)I"⟩
def t_Row_sealFor (pc : Nat) : Option Ent :=
  bif Nat.blt pc 24 then
    (bif Nat.blt pc 11 then
      (bif Nat.blt pc 6 then
        (bif Nat.blt pc 2 then
          (bif Nat.beq pc 0 then some (.ldc 38, 0, 0, 0, 40503) else none)
        else
          bif Nat.blt pc 3 then
            (bif Nat.beq pc 2 then some (.aload_n 0, 0, 0, 0, 0) else none)
          else
            bif Nat.beq pc 3 then some (.getfield 15, 7, 2, 0, 0) else none)
      else
        bif Nat.blt pc 8 then
          (bif Nat.blt pc 7 then
            (bif Nat.beq pc 6 then some (.iadd, 0, 0, 0, 0) else none)
          else
            bif Nat.beq pc 7 then some (.istore_n 3, 3, 0, 0, 0) else none)
        else
          bif Nat.blt pc 9 then
            (bif Nat.beq pc 8 then some (.iconst 0, 0, 0, 0, 0) else none)
          else
            bif Nat.beq pc 9 then some (.istore 4, 4, 0, 0, 0) else none)
    else
      bif Nat.blt pc 17 then
        (bif Nat.blt pc 13 then
          (bif Nat.beq pc 11 then some (.iload 4, 4, 0, 0, 0) else none)
        else
          bif Nat.blt pc 14 then
            (bif Nat.beq pc 13 then some (.iload_n 1, 1, 0, 0, 0) else none)
          else
            bif Nat.beq pc 14 then some (.if_icmp .ge (22), 36, 0, 0, 0) else none)
      else
        bif Nat.blt pc 19 then
          (bif Nat.blt pc 18 then
            (bif Nat.beq pc 17 then some (.iload_n 3, 3, 0, 0, 0) else none)
          else
            bif Nat.beq pc 18 then some (.aload_n 0, 0, 0, 0, 0) else none)
        else
          bif Nat.blt pc 22 then
            (bif Nat.beq pc 19 then some (.getfield 9, 7, 0, 1, 0) else none)
          else
            bif Nat.beq pc 22 then some (.iload 4, 4, 0, 0, 0) else none)
  else
    bif Nat.blt pc 36 then
      (bif Nat.blt pc 28 then
        (bif Nat.blt pc 25 then
          (bif Nat.beq pc 24 then some (.iaload, 0, 0, 0, 0) else none)
        else
          bif Nat.blt pc 26 then
            (bif Nat.beq pc 25 then some (.ixor, 0, 0, 0, 0) else none)
          else
            bif Nat.beq pc 26 then some (.ldc 39, 0, 0, 0, 16777619) else none)
      else
        bif Nat.blt pc 30 then
          (bif Nat.blt pc 29 then
            (bif Nat.beq pc 28 then some (.imul, 0, 0, 0, 0) else none)
          else
            bif Nat.beq pc 29 then some (.istore_n 3, 3, 0, 0, 0) else none)
        else
          bif Nat.blt pc 33 then
            (bif Nat.beq pc 30 then some (.iinc 4 1, 4, 0, 0, 1) else none)
          else
            bif Nat.beq pc 33 then some (.goto (-22), 11, 0, 0, 0) else none)
    else
      bif Nat.blt pc 41 then
        (bif Nat.blt pc 39 then
          (bif Nat.blt pc 37 then
            (bif Nat.beq pc 36 then some (.iload_n 3, 3, 0, 0, 0) else none)
          else
            bif Nat.beq pc 37 then some (.bipush 16, 0, 0, 0, 16) else none)
        else
          bif Nat.blt pc 40 then
            (bif Nat.beq pc 39 then some (.iushr, 0, 0, 0, 0) else none)
          else
            bif Nat.beq pc 40 then some (.iload_n 2, 2, 0, 0, 0) else none)
      else
        bif Nat.blt pc 44 then
          (bif Nat.blt pc 43 then
            (bif Nat.beq pc 41 then some (.ldc 40, 0, 0, 0, 65535) else none)
          else
            bif Nat.beq pc 43 then some (.iand, 0, 0, 0, 0) else none)
        else
          bif Nat.blt pc 45 then
            (bif Nat.beq pc 44 then some (.ixor, 0, 0, 0, 0) else none)
          else
            bif Nat.beq pc 45 then some (.ireturn, 0, 0, 0, 0) else none
def i_Row_sealFor : Nat → Option Ent := ab_tab 46 t_Row_sealFor
def h_Row_sealFor (pc : Nat) : Nat × List Bool := bif Nat.beq pc 11 then (1, [true, true, true, true, true]) else (0, [])
def s_Row_sealFor (pc : Nat) : List (Int32 × Nat) × Nat := ([], 0)
noncomputable def eV_Row_sealFor : Nat → List AV → Mm → Option Mm := ab_ev []
noncomputable def eI_Row_sealFor : Nat → List AV → Mm → Option (Int32 × Mm) := ab_ev []
noncomputable def b_Row_sealFor_0 (f : Nat) (v0 : Nat) (v1 : Int32) (v2 : Int32) (m : Mm) : Option Rs := ab_ex KT none s_Row_sealFor eV_Row_sealFor eI_Row_sealFor i_Row_sealFor h_Row_sealFor f 0 [some (.inr (.inr (4, some v0))), some (.inl v1), some (.inl v2), none, none] [] m
noncomputable def b_Row_sealFor_11 (f : Nat) (v0 : Nat) (v1 : Int32) (v2 : Int32) (v3 : Int32) (v4 : Int32) (m : Mm) : Option Rs := ab_ex KT none s_Row_sealFor eV_Row_sealFor eI_Row_sealFor i_Row_sealFor h_Row_sealFor f 11 [some (.inr (.inr (4, some v0))), some (.inl v1), some (.inl v2), some (.inl v3), some (.inl v4)] [] m
set_option maxRecDepth 100000 in
set_option maxHeartbeats 4000000 in
theorem b_Row_sealFor_0_eq (f : Nat) (v0 : Nat) (v1 : Int32) (v2 : Int32) (m : Mm) : b_Row_sealFor_0 (f + 1) v0 v1 v2 m =
    ab_let (((40503 : Int32) + (m.1 12 v0 0))) fun x1 =>
    b_Row_sealFor_11 f v0 v1 v2 x1 (0 : Int32) m := rfl
set_option maxRecDepth 100000 in
set_option maxHeartbeats 4000000 in
theorem b_Row_sealFor_11_eq (f : Nat) (v0 : Nat) (v1 : Int32) (v2 : Int32) (v3 : Int32) (v4 : Int32) (m : Mm) : b_Row_sealFor_11 (f + 1) v0 v1 v2 v3 v4 m =
    if v1 ≤ v4 then
      some (.inl (some (.inl (((v3).toUInt32 >>> (((16 : Int32)).toUInt32 &&& Int32.toUInt32 31)).toInt32 ^^^ (v2 &&& (65535 : Int32)))), m))
    else
      (ab_ix v4 40).bind fun i1 =>
      ab_let (((v3 ^^^ (m.1 13 (v0 + 1) i1)) * (16777619 : Int32))) fun x2 =>
      ab_let (v4 + (1 : Int32)) fun x3 =>
      b_Row_sealFor_11 f v0 v1 v2 x2 x3 m := rfl
noncomputable def r_Row_sealFor : Nat → Int32 → Int32 → Mm → Option (Int32 × Mm) := ab_seal fun v0 v1 v2 m => ab_rI (b_Row_sealFor_0 50000 v0 v1 v2 m)
theorem r_Row_sealFor_eq (v0 : Nat) (v1 : Int32) (v2 : Int32) (m : Mm) : r_Row_sealFor v0 v1 v2 m = ab_rI (b_Row_sealFor_0 50000 v0 v1 v2 m) := by
  unfold r_Row_sealFor
  rw [ab_seal_eq]
noncomputable def c_Row_sealFor : List AV → Mm → Option (Int32 × Mm) := fun av m => match av with
  | [.inr (.inr (kv0, ov0)), .inl v1, .inl v2] => if kv0 = 4 then (ov0.bind fun v0 => r_Row_sealFor v0 v1 v2 m) else none
  | _ => none
theorem c_Row_sealFor_inv {av : List AV} {m : Mm} {r : Int32 × Mm} (h : c_Row_sealFor av m = some r) : ∃ (v0 : Nat) (v1 : Int32) (v2 : Int32), av = [.inr (.inr (4, some v0)), .inl v1, .inl v2] ∧ r_Row_sealFor v0 v1 v2 m = some r := by
  unfold c_Row_sealFor at h
  split at h
  · rename_i kv0 ov0 v1 v2
    by_cases hkv0 : kv0 = 4
    case neg => rw [if_neg hkv0] at h; cases h
    rw [if_pos hkv0] at h
    subst hkv0
    obtain ⟨v0, hev0, h⟩ := Option.bind_eq_some_iff.mp h
    subst hev0
    exact ⟨v0, v1, v2, rfl, h⟩
  · cases h
def cs_Row_sealFor : List Nat := []
set_option maxRecDepth 100000 in
theorem E_Row_sealFor : ∀ (pc : Nat) (q : Ent), i_Row_sealFor pc = some q → ab_E KT CL ab_gW "StreamTransport$Row" "sealFor" (some .int) prog_9_method_9_code s_Row_sealFor 5 pc q.1 q.2.1 q.2.2.1 q.2.2.2.1 q.2.2.2.2 := fun pc q hq =>
  ab_Eb_ok lc_Row lj_Row fl_Row (fpn_Row "sealFor") nw_Row na_Row nq_Row (ab_tab_all (t := t_Row_sealFor) (chk := fun pc q => ab_Eb (some .int) prog_9_method_9_code s_Row_sealFor 5 LC_Row LJ_Row FL_Row FPn_Row NW_Row NA_Row NQ_Row pc q.1 q.2.1 q.2.2.1 q.2.2.2.1 q.2.2.2.2) (by decide +kernel) hq)
set_option maxRecDepth 100000 in
theorem kp_Row_sealFor {av : List AV} {m : Mm} {r : Int32 × Mm} (h : c_Row_sealFor av m = some r) : ab_kp m r.2 := by
  obtain ⟨v0, v1, v2, -, h⟩ := c_Row_sealFor_inv h
  rw [r_Row_sealFor_eq] at h
  have hV : ∀ a av m m', eV_Row_sealFor a av m = some m' → ab_kp m m' := ab_ev_all (P := fun _ m r => ab_kp m r) [] (fun q hq => by cases hq)
  have hI : ∀ a av m q, eI_Row_sealFor a av m = some q → ab_kp m q.2 := ab_ev_all (P := fun _ (m : Mm) (r : Int32 × Mm) => ab_kp m r.2) [] (fun q hq => by cases hq)
  exact ab_kprel (ρ := .inl (some (.inl r.1), r.2)) (ab_tab_isn (t := t_Row_sealFor) (by decide +kernel)) hV hI (ab_rI_inv h)
set_option maxRecDepth 100000 in
theorem cl_Row_sealFor (l : Launch) : ∀ (pc : Nat) (q : Ent), i_Row_sealFor pc = some q → ab_inv q.1 = true → ab_CR l KT CL none ab_gW "StreamTransport$Row" prog_9_method_9_code 5 0 0 eV_Row_sealFor eI_Row_sealFor pc q := by
  intro pc q hq hi
  have hm : pc ∈ cs_Row_sealFor := ab_tab_cs (t := t_Row_sealFor) (by decide +kernel) hq hi
  cases hm
theorem cw_Row_sealFor : ab_cw y_Row_sealFor prog_9_method_9_code 5 2 (some .int) := ⟨ab_gW_in 586 (by decide +kernel) rfl, ab_gW_in 62 (by decide +kernel) rfl, by decide +kernel, by decide +kernel, by decide +kernel⟩
theorem is_Row_sealFor : Cond.instanceMethod y_Row_sealFor ∈ ab_gW := ab_gW_in 585 (by decide +kernel) rfl
theorem sl_Row_sealFor : Cond.selects "StreamTransport$Row" y_Row_sealFor y_Row_sealFor ∈ ab_gW := ab_gW_in 10 (by decide +kernel) rfl
set_option maxRecDepth 100000 in
theorem cm_Row_sealFor (l : Launch) {av : List AV} {m : Mm} {r : Int32 × Mm} (h0 : c_Row_sealFor av m = some r) : ∃ (k q : Nat) (av' : List AV) (ci : Nat) (fs : List (Nat × Nat × Nat × Nat)) (z : vw_C), av = .inr (.inr (k, some q)) :: av' ∧ av'.length = 2 ∧ k ≠ 0 ∧ KT[k]? = some (.inl (ci, fs)) ∧ CL[ci]? = some z ∧ z.1 = "StreamTransport$Row" ∧ ab_nos av' ∧ ab_Met l KT CL y_Row_sealFor (Cond.code y_Row_sealFor prog_9_method_9_code 5 (some .int) :: ab_gW) 0 0 none av m (some (.inl r.1)) r.2 := by
  obtain ⟨v0, v1, v2, hav, h⟩ := c_Row_sealFor_inv h0
  rw [r_Row_sealFor_eq] at h
  have hmo : ab_mo m r.2 := ab_kp_mo (kp_Row_sealFor h0)
  subst hav
  exact ⟨_, _, _, _, _, _, rfl, rfl, by decide, rfl, rfl, rfl, (by intro v hv q e; subst e; simp at hv), ab_met (by decide +kernel) KT_0 KT_nd KT_k3 E_Row_sealFor (cl_Row_sealFor l) hmo (Nat.le_of_ble_eq_true rfl) (ab_rI_inv h) (fun v hv => by cases hv; exact ⟨_, rfl⟩)⟩
/-! StreamTransport$Row.seal(I)V -/
def y_Row_seal : MethodName := ⟨"StreamTransport$Row", "seal", "(I)V"⟩
def t_Row_seal (pc : Nat) : Option Ent :=
  bif Nat.blt pc 11 then
    (bif Nat.blt pc 5 then
      (bif Nat.blt pc 1 then
        (bif Nat.beq pc 0 then some (.aload_n 0, 0, 0, 0, 0) else none)
      else
        bif Nat.blt pc 2 then
          (bif Nat.beq pc 1 then some (.aload_n 0, 0, 0, 0, 0) else none)
        else
          bif Nat.beq pc 2 then some (.getfield 19, 7, 1, 0, 0) else none)
    else
      bif Nat.blt pc 9 then
        (bif Nat.blt pc 6 then
          (bif Nat.beq pc 5 then some (.iload_n 1, 1, 0, 0, 0) else none)
        else
          bif Nat.beq pc 6 then some (.invokevirtual 34, 11, 3, 1, 0) else none)
      else
        bif Nat.blt pc 10 then
          (bif Nat.beq pc 9 then some (.istore_n 2, 2, 0, 0, 0) else none)
        else
          bif Nat.beq pc 10 then some (.aload_n 0, 0, 0, 0, 0) else none)
  else
    bif Nat.blt pc 18 then
      (bif Nat.blt pc 14 then
        (bif Nat.blt pc 12 then
          (bif Nat.beq pc 11 then some (.iload_n 2, 2, 0, 0, 0) else none)
        else
          bif Nat.beq pc 12 then some (.bipush 8, 0, 0, 0, 8) else none)
      else
        bif Nat.blt pc 15 then
          (bif Nat.beq pc 14 then some (.iushr, 0, 0, 0, 0) else none)
        else
          bif Nat.beq pc 15 then some (.invokevirtual 22, 8, 2, 0, 0) else none)
    else
      bif Nat.blt pc 20 then
        (bif Nat.blt pc 19 then
          (bif Nat.beq pc 18 then some (.aload_n 0, 0, 0, 0, 0) else none)
        else
          bif Nat.beq pc 19 then some (.iload_n 2, 2, 0, 0, 0) else none)
      else
        bif Nat.blt pc 23 then
          (bif Nat.beq pc 20 then some (.invokevirtual 22, 8, 2, 0, 0) else none)
        else
          bif Nat.beq pc 23 then some (.return_, 0, 0, 0, 0) else none
def i_Row_seal : Nat → Option Ent := ab_tab 24 t_Row_seal
def h_Row_seal (pc : Nat) : Nat × List Bool := (0, [])
def s_Row_seal (pc : Nat) : List (Int32 × Nat) × Nat := ([], 0)
noncomputable def eV_Row_seal : Nat → List AV → Mm → Option Mm := ab_ev [(8, c_Row_put)]
noncomputable def eI_Row_seal : Nat → List AV → Mm → Option (Int32 × Mm) := ab_ev [(11, c_Row_sealFor)]
noncomputable def b_Row_seal_0 (f : Nat) (v0 : Nat) (v1 : Int32) (m : Mm) : Option Rs := ab_ex KT none s_Row_seal eV_Row_seal eI_Row_seal i_Row_seal h_Row_seal f 0 [some (.inr (.inr (4, some v0))), some (.inl v1), none] [] m
set_option maxRecDepth 100000 in
set_option maxHeartbeats 4000000 in
theorem b_Row_seal_0_eq (f : Nat) (v0 : Nat) (v1 : Int32) (m : Mm) : b_Row_seal_0 (f + 1) v0 v1 m =
    (r_Row_sealFor v0 (m.1 11 v0 0) v1 m).bind fun z1 =>
    (r_Row_put v0 (((z1.1).toUInt32 >>> (((8 : Int32)).toUInt32 &&& Int32.toUInt32 31)).toInt32) z1.2).bind fun m2 =>
    (r_Row_put v0 z1.1 m2).bind fun m3 =>
    some (.inl (none, m3)) := rfl
noncomputable def r_Row_seal : Nat → Int32 → Mm → Option Mm := ab_seal fun v0 v1 m => ab_rV (b_Row_seal_0 50000 v0 v1 m)
theorem r_Row_seal_eq (v0 : Nat) (v1 : Int32) (m : Mm) : r_Row_seal v0 v1 m = ab_rV (b_Row_seal_0 50000 v0 v1 m) := by
  unfold r_Row_seal
  rw [ab_seal_eq]
noncomputable def c_Row_seal : List AV → Mm → Option Mm := fun av m => match av with
  | [.inr (.inr (kv0, ov0)), .inl v1] => if kv0 = 4 then (ov0.bind fun v0 => r_Row_seal v0 v1 m) else none
  | _ => none
theorem c_Row_seal_inv {av : List AV} {m : Mm} {r : Mm} (h : c_Row_seal av m = some r) : ∃ (v0 : Nat) (v1 : Int32), av = [.inr (.inr (4, some v0)), .inl v1] ∧ r_Row_seal v0 v1 m = some r := by
  unfold c_Row_seal at h
  split at h
  · rename_i kv0 ov0 v1
    by_cases hkv0 : kv0 = 4
    case neg => rw [if_neg hkv0] at h; cases h
    rw [if_pos hkv0] at h
    subst hkv0
    obtain ⟨v0, hev0, h⟩ := Option.bind_eq_some_iff.mp h
    subst hev0
    exact ⟨v0, v1, rfl, h⟩
  · cases h
def cs_Row_seal : List Nat := [6, 15, 20]
set_option maxRecDepth 100000 in
theorem E_Row_seal : ∀ (pc : Nat) (q : Ent), i_Row_seal pc = some q → ab_E KT CL ab_gW "StreamTransport$Row" "seal" none prog_9_method_7_code s_Row_seal 3 pc q.1 q.2.1 q.2.2.1 q.2.2.2.1 q.2.2.2.2 := fun pc q hq =>
  ab_Eb_ok lc_Row lj_Row fl_Row (fpn_Row "seal") nw_Row na_Row nq_Row (ab_tab_all (t := t_Row_seal) (chk := fun pc q => ab_Eb none prog_9_method_7_code s_Row_seal 3 LC_Row LJ_Row FL_Row FPn_Row NW_Row NA_Row NQ_Row pc q.1 q.2.1 q.2.2.1 q.2.2.2.1 q.2.2.2.2) (by decide +kernel) hq)
set_option maxRecDepth 100000 in
theorem kp_Row_seal {av : List AV} {m : Mm} {r : Mm} (h : c_Row_seal av m = some r) : ab_kp m r := by
  obtain ⟨v0, v1, -, h⟩ := c_Row_seal_inv h
  rw [r_Row_seal_eq] at h
  have hV : ∀ a av m m', eV_Row_seal a av m = some m' → ab_kp m m' := ab_ev_all (P := fun _ m r => ab_kp m r) [(8, c_Row_put)] (List.forall_mem_cons.mpr ⟨fun av m r h => kp_Row_put h, fun q hq => by cases hq⟩)
  have hI : ∀ a av m q, eI_Row_seal a av m = some q → ab_kp m q.2 := ab_ev_all (P := fun _ (m : Mm) (r : Int32 × Mm) => ab_kp m r.2) [(11, c_Row_sealFor)] (List.forall_mem_cons.mpr ⟨fun av m r h => kp_Row_sealFor h, fun q hq => by cases hq⟩)
  exact ab_kprel (ρ := .inl (none, r)) (ab_tab_isn (t := t_Row_seal) (by decide +kernel)) hV hI (ab_rV_inv h)
set_option maxRecDepth 100000 in
theorem cl_Row_seal (l : Launch) : ∀ (pc : Nat) (q : Ent), i_Row_seal pc = some q → ab_inv q.1 = true → ab_CR l KT CL none ab_gW "StreamTransport$Row" prog_9_method_7_code 3 1 24 eV_Row_seal eI_Row_seal pc q := by
  intro pc q hq hi
  have hm : pc ∈ cs_Row_seal := ab_tab_cs (t := t_Row_seal) (by decide +kernel) hq hi
  simp only [cs_Row_seal, List.mem_cons, List.not_mem_nil, or_false] at hm
  rcases hm with rfl | rfl | rfl
  · cases (Option.some.inj hq : ((.invokevirtual 34, 11, 3, 1, 0) : Ent) = q)
    exact ab_crV (C := "StreamTransport$Row") (by decide +kernel) cw_Row_sealFor (ab_gW_in 583 (by decide +kernel) rfl) is_Row_sealFor sl_Row_sealFor (by decide) (fun av m m' h => by cases h) (fun av m r h => cm_Row_sealFor l h) KT_nd
  · cases (Option.some.inj hq : ((.invokevirtual 22, 8, 2, 0, 0) : Ent) = q)
    exact ab_crV (C := "StreamTransport$Row") (by decide +kernel) cw_Row_put (ab_gW_in 449 (by decide +kernel) rfl) is_Row_put sl_Row_put (by decide) (fun av m m' h => cm_Row_put l h) (fun av m r h => by cases h) KT_nd
  · cases (Option.some.inj hq : ((.invokevirtual 22, 8, 2, 0, 0) : Ent) = q)
    exact ab_crV (C := "StreamTransport$Row") (by decide +kernel) cw_Row_put (ab_gW_in 449 (by decide +kernel) rfl) is_Row_put sl_Row_put (by decide) (fun av m m' h => cm_Row_put l h) (fun av m r h => by cases h) KT_nd
theorem cw_Row_seal : ab_cw y_Row_seal prog_9_method_7_code 3 1 none := ⟨ab_gW_in 582 (by decide +kernel) rfl, ab_gW_in 62 (by decide +kernel) rfl, by decide +kernel, by decide +kernel, by decide +kernel⟩
theorem is_Row_seal : Cond.instanceMethod y_Row_seal ∈ ab_gW := ab_gW_in 580 (by decide +kernel) rfl
theorem sl_Row_seal : Cond.selects "StreamTransport$Row" y_Row_seal y_Row_seal ∈ ab_gW := ab_gW_in 581 (by decide +kernel) rfl
set_option maxRecDepth 100000 in
theorem cm_Row_seal (l : Launch) {av : List AV} {m : Mm} {r : Mm} (h0 : c_Row_seal av m = some r) : ∃ (k q : Nat) (av' : List AV) (ci : Nat) (fs : List (Nat × Nat × Nat × Nat)) (z : vw_C), av = .inr (.inr (k, some q)) :: av' ∧ av'.length = 1 ∧ k ≠ 0 ∧ KT[k]? = some (.inl (ci, fs)) ∧ CL[ci]? = some z ∧ z.1 = "StreamTransport$Row" ∧ ab_nos av' ∧ ab_Met l KT CL y_Row_seal (Cond.code y_Row_seal prog_9_method_7_code 3 none :: ab_gW) 1 24 none av m none r := by
  obtain ⟨v0, v1, hav, h⟩ := c_Row_seal_inv h0
  rw [r_Row_seal_eq] at h
  have hmo : ab_mo m r := ab_kp_mo (kp_Row_seal h0)
  subst hav
  exact ⟨_, _, _, _, _, _, rfl, rfl, by decide, rfl, rfl, rfl, (by intro v hv q e; subst e; simp at hv), ab_met (by decide +kernel) KT_0 KT_nd KT_k3 E_Row_seal (cl_Row_seal l) hmo (Nat.le_of_ble_eq_true rfl) (ab_rV_inv h) (fun v hv => by cases hv)⟩
/-! StreamTransport$Row.isSealedFor(I)Z -/
def y_Row_isSealedFor : MethodName := ⟨"StreamTransport$Row", "isSealedFor", "(I)Z"⟩
def t_Row_isSealedFor (pc : Nat) : Option Ent :=
  bif Nat.blt pc 26 then
    (bif Nat.blt pc 13 then
      (bif Nat.blt pc 6 then
        (bif Nat.blt pc 4 then
          (bif Nat.blt pc 1 then
            (bif Nat.beq pc 0 then some (.aload_n 0, 0, 0, 0, 0) else none)
          else
            bif Nat.beq pc 1 then some (.getfield 19, 7, 1, 0, 0) else none)
        else
          bif Nat.blt pc 5 then
            (bif Nat.beq pc 4 then some (.iconst 2, 0, 0, 0, 2) else none)
          else
            bif Nat.beq pc 5 then some (.isub, 0, 0, 0, 0) else none)
      else
        bif Nat.blt pc 8 then
          (bif Nat.blt pc 7 then
            (bif Nat.beq pc 6 then some (.istore_n 2, 2, 0, 0, 0) else none)
          else
            bif Nat.beq pc 7 then some (.iload_n 2, 2, 0, 0, 0) else none)
        else
          bif Nat.blt pc 11 then
            (bif Nat.beq pc 8 then some (.ifCond .ge (5), 13, 0, 0, 0) else none)
          else
            bif Nat.blt pc 12 then
              (bif Nat.beq pc 11 then some (.iconst 0, 0, 0, 0, 0) else none)
            else
              bif Nat.beq pc 12 then some (.ireturn, 0, 0, 1, 0) else none)
    else
      bif Nat.blt pc 19 then
        (bif Nat.blt pc 15 then
          (bif Nat.blt pc 14 then
            (bif Nat.beq pc 13 then some (.aload_n 0, 0, 0, 0, 0) else none)
          else
            bif Nat.beq pc 14 then some (.iload_n 2, 2, 0, 0, 0) else none)
        else
          bif Nat.blt pc 16 then
            (bif Nat.beq pc 15 then some (.iload_n 1, 1, 0, 0, 0) else none)
          else
            bif Nat.beq pc 16 then some (.invokevirtual 34, 11, 3, 1, 0) else none)
      else
        bif Nat.blt pc 21 then
          (bif Nat.blt pc 20 then
            (bif Nat.beq pc 19 then some (.istore_n 3, 3, 0, 0, 0) else none)
          else
            bif Nat.beq pc 20 then some (.aload_n 0, 0, 0, 0, 0) else none)
        else
          bif Nat.blt pc 24 then
            (bif Nat.beq pc 21 then some (.getfield 9, 7, 0, 1, 0) else none)
          else
            bif Nat.blt pc 25 then
              (bif Nat.beq pc 24 then some (.iload_n 2, 2, 0, 0, 0) else none)
            else
              bif Nat.beq pc 25 then some (.iaload, 0, 0, 0, 0) else none)
  else
    bif Nat.blt pc 40 then
      (bif Nat.blt pc 33 then
        (bif Nat.blt pc 29 then
          (bif Nat.blt pc 27 then
            (bif Nat.beq pc 26 then some (.iload_n 3, 3, 0, 0, 0) else none)
          else
            bif Nat.beq pc 27 then some (.bipush 8, 0, 0, 0, 8) else none)
        else
          bif Nat.blt pc 30 then
            (bif Nat.beq pc 29 then some (.iushr, 0, 0, 0, 0) else none)
          else
            bif Nat.beq pc 30 then some (.if_icmp .ne (23), 53, 0, 0, 0) else none)
      else
        bif Nat.blt pc 37 then
          (bif Nat.blt pc 34 then
            (bif Nat.beq pc 33 then some (.aload_n 0, 0, 0, 0, 0) else none)
          else
            bif Nat.beq pc 34 then some (.getfield 9, 7, 0, 1, 0) else none)
        else
          bif Nat.blt pc 38 then
            (bif Nat.beq pc 37 then some (.iload_n 2, 2, 0, 0, 0) else none)
          else
            bif Nat.blt pc 39 then
              (bif Nat.beq pc 38 then some (.iconst 1, 0, 0, 0, 1) else none)
            else
              bif Nat.beq pc 39 then some (.iadd, 0, 0, 0, 0) else none)
    else
      bif Nat.blt pc 46 then
        (bif Nat.blt pc 42 then
          (bif Nat.blt pc 41 then
            (bif Nat.beq pc 40 then some (.iaload, 0, 0, 0, 0) else none)
          else
            bif Nat.beq pc 41 then some (.iload_n 3, 3, 0, 0, 0) else none)
        else
          bif Nat.blt pc 45 then
            (bif Nat.beq pc 42 then some (.sipush 255, 0, 0, 0, 255) else none)
          else
            bif Nat.beq pc 45 then some (.iand, 0, 0, 0, 0) else none)
      else
        bif Nat.blt pc 50 then
          (bif Nat.blt pc 49 then
            (bif Nat.beq pc 46 then some (.if_icmp .ne (7), 53, 0, 0, 0) else none)
          else
            bif Nat.beq pc 49 then some (.iconst 1, 0, 0, 0, 1) else none)
        else
          bif Nat.blt pc 53 then
            (bif Nat.beq pc 50 then some (.goto 4, 54, 0, 0, 0) else none)
          else
            bif Nat.blt pc 54 then
              (bif Nat.beq pc 53 then some (.iconst 0, 0, 0, 0, 0) else none)
            else
              bif Nat.beq pc 54 then some (.ireturn, 0, 0, 1, 0) else none
def i_Row_isSealedFor : Nat → Option Ent := ab_tab 55 t_Row_isSealedFor
def h_Row_isSealedFor (pc : Nat) : Nat × List Bool := (0, [])
def s_Row_isSealedFor (pc : Nat) : List (Int32 × Nat) × Nat := ([], 0)
noncomputable def eV_Row_isSealedFor : Nat → List AV → Mm → Option Mm := ab_ev []
noncomputable def eI_Row_isSealedFor : Nat → List AV → Mm → Option (Int32 × Mm) := ab_ev [(11, c_Row_sealFor)]
noncomputable def b_Row_isSealedFor_0 (f : Nat) (v0 : Nat) (v1 : Int32) (m : Mm) : Option Rs := ab_ex KT none s_Row_isSealedFor eV_Row_isSealedFor eI_Row_isSealedFor i_Row_isSealedFor h_Row_isSealedFor f 0 [some (.inr (.inr (4, some v0))), some (.inl v1), none, none] [] m
set_option maxRecDepth 100000 in
set_option maxHeartbeats 4000000 in
theorem b_Row_isSealedFor_0_eq (f : Nat) (v0 : Nat) (v1 : Int32) (m : Mm) : b_Row_isSealedFor_0 (f + 1) v0 v1 m =
    ab_let (((m.1 11 v0 0) - (2 : Int32))) fun x1 =>
    if 0 ≤ x1 then
      (r_Row_sealFor v0 x1 v1 m).bind fun z2 =>
      (ab_ix x1 40).bind fun i3 =>
      if (z2.2.1 13 (v0 + 1) i3) = ((z2.1).toUInt32 >>> (((8 : Int32)).toUInt32 &&& Int32.toUInt32 31)).toInt32 then
        (ab_ix (x1 + (1 : Int32)) 40).bind fun i5 =>
        if (z2.2.1 13 (v0 + 1) i5) = (z2.1 &&& (255 : Int32)) then
          (ab_bo (1 : Int32)).bind fun y7 => some (.inl (some (.inl y7), z2.2))
        else
          (ab_bo (0 : Int32)).bind fun y6 => some (.inl (some (.inl y6), z2.2))
      else
        (ab_bo (0 : Int32)).bind fun y4 => some (.inl (some (.inl y4), z2.2))
    else
      (ab_bo (0 : Int32)).bind fun y8 => some (.inl (some (.inl y8), m)) := rfl
noncomputable def r_Row_isSealedFor : Nat → Int32 → Mm → Option (Int32 × Mm) := ab_seal fun v0 v1 m => ab_rI (b_Row_isSealedFor_0 50000 v0 v1 m)
theorem r_Row_isSealedFor_eq (v0 : Nat) (v1 : Int32) (m : Mm) : r_Row_isSealedFor v0 v1 m = ab_rI (b_Row_isSealedFor_0 50000 v0 v1 m) := by
  unfold r_Row_isSealedFor
  rw [ab_seal_eq]
noncomputable def c_Row_isSealedFor : List AV → Mm → Option (Int32 × Mm) := fun av m => match av with
  | [.inr (.inr (kv0, ov0)), .inl v1] => if kv0 = 4 then (ov0.bind fun v0 => r_Row_isSealedFor v0 v1 m) else none
  | _ => none
theorem c_Row_isSealedFor_inv {av : List AV} {m : Mm} {r : Int32 × Mm} (h : c_Row_isSealedFor av m = some r) : ∃ (v0 : Nat) (v1 : Int32), av = [.inr (.inr (4, some v0)), .inl v1] ∧ r_Row_isSealedFor v0 v1 m = some r := by
  unfold c_Row_isSealedFor at h
  split at h
  · rename_i kv0 ov0 v1
    by_cases hkv0 : kv0 = 4
    case neg => rw [if_neg hkv0] at h; cases h
    rw [if_pos hkv0] at h
    subst hkv0
    obtain ⟨v0, hev0, h⟩ := Option.bind_eq_some_iff.mp h
    subst hev0
    exact ⟨v0, v1, rfl, h⟩
  · cases h
def cs_Row_isSealedFor : List Nat := [16]
set_option maxRecDepth 100000 in
theorem E_Row_isSealedFor : ∀ (pc : Nat) (q : Ent), i_Row_isSealedFor pc = some q → ab_E KT CL ab_gW "StreamTransport$Row" "isSealedFor" (some .boolean) prog_9_method_8_code s_Row_isSealedFor 4 pc q.1 q.2.1 q.2.2.1 q.2.2.2.1 q.2.2.2.2 := fun pc q hq =>
  ab_Eb_ok lc_Row lj_Row fl_Row (fpn_Row "isSealedFor") nw_Row na_Row nq_Row (ab_tab_all (t := t_Row_isSealedFor) (chk := fun pc q => ab_Eb (some .boolean) prog_9_method_8_code s_Row_isSealedFor 4 LC_Row LJ_Row FL_Row FPn_Row NW_Row NA_Row NQ_Row pc q.1 q.2.1 q.2.2.1 q.2.2.2.1 q.2.2.2.2) (by decide +kernel) hq)
set_option maxRecDepth 100000 in
theorem kp_Row_isSealedFor {av : List AV} {m : Mm} {r : Int32 × Mm} (h : c_Row_isSealedFor av m = some r) : ab_kp m r.2 := by
  obtain ⟨v0, v1, -, h⟩ := c_Row_isSealedFor_inv h
  rw [r_Row_isSealedFor_eq] at h
  have hV : ∀ a av m m', eV_Row_isSealedFor a av m = some m' → ab_kp m m' := ab_ev_all (P := fun _ m r => ab_kp m r) [] (fun q hq => by cases hq)
  have hI : ∀ a av m q, eI_Row_isSealedFor a av m = some q → ab_kp m q.2 := ab_ev_all (P := fun _ (m : Mm) (r : Int32 × Mm) => ab_kp m r.2) [(11, c_Row_sealFor)] (List.forall_mem_cons.mpr ⟨fun av m r h => kp_Row_sealFor h, fun q hq => by cases hq⟩)
  exact ab_kprel (ρ := .inl (some (.inl r.1), r.2)) (ab_tab_isn (t := t_Row_isSealedFor) (by decide +kernel)) hV hI (ab_rI_inv h)
set_option maxRecDepth 100000 in
theorem cl_Row_isSealedFor (l : Launch) : ∀ (pc : Nat) (q : Ent), i_Row_isSealedFor pc = some q → ab_inv q.1 = true → ab_CR l KT CL none ab_gW "StreamTransport$Row" prog_9_method_8_code 4 1 24 eV_Row_isSealedFor eI_Row_isSealedFor pc q := by
  intro pc q hq hi
  have hm : pc ∈ cs_Row_isSealedFor := ab_tab_cs (t := t_Row_isSealedFor) (by decide +kernel) hq hi
  simp only [cs_Row_isSealedFor, List.mem_cons, List.not_mem_nil, or_false] at hm
  rcases hm with rfl
  · cases (Option.some.inj hq : ((.invokevirtual 34, 11, 3, 1, 0) : Ent) = q)
    exact ab_crV (C := "StreamTransport$Row") (by decide +kernel) cw_Row_sealFor (ab_gW_in 583 (by decide +kernel) rfl) is_Row_sealFor sl_Row_sealFor (by decide) (fun av m m' h => by cases h) (fun av m r h => cm_Row_sealFor l h) KT_nd
theorem cw_Row_isSealedFor : ab_cw y_Row_isSealedFor prog_9_method_8_code 4 1 (some .boolean) := ⟨ab_gW_in 629 (by decide +kernel) rfl, ab_gW_in 62 (by decide +kernel) rfl, by decide +kernel, by decide +kernel, by decide +kernel⟩
theorem is_Row_isSealedFor : Cond.instanceMethod y_Row_isSealedFor ∈ ab_gW := ab_gW_in 627 (by decide +kernel) rfl
theorem sl_Row_isSealedFor : Cond.selects "StreamTransport$Row" y_Row_isSealedFor y_Row_isSealedFor ∈ ab_gW := ab_gW_in 628 (by decide +kernel) rfl
set_option maxRecDepth 100000 in
theorem cm_Row_isSealedFor (l : Launch) {av : List AV} {m : Mm} {r : Int32 × Mm} (h0 : c_Row_isSealedFor av m = some r) : ∃ (k q : Nat) (av' : List AV) (ci : Nat) (fs : List (Nat × Nat × Nat × Nat)) (z : vw_C), av = .inr (.inr (k, some q)) :: av' ∧ av'.length = 1 ∧ k ≠ 0 ∧ KT[k]? = some (.inl (ci, fs)) ∧ CL[ci]? = some z ∧ z.1 = "StreamTransport$Row" ∧ ab_nos av' ∧ ab_Met l KT CL y_Row_isSealedFor (Cond.code y_Row_isSealedFor prog_9_method_8_code 4 (some .boolean) :: ab_gW) 1 24 none av m (some (.inl r.1)) r.2 := by
  obtain ⟨v0, v1, hav, h⟩ := c_Row_isSealedFor_inv h0
  rw [r_Row_isSealedFor_eq] at h
  have hmo : ab_mo m r.2 := ab_kp_mo (kp_Row_isSealedFor h0)
  subst hav
  exact ⟨_, _, _, _, _, _, rfl, rfl, by decide, rfl, rfl, rfl, (by intro v hv q e; subst e; simp at hv), ab_met (by decide +kernel) KT_0 KT_nd KT_k3 E_Row_isSealedFor (cl_Row_isSealedFor l) hmo (Nat.le_of_ble_eq_true rfl) (ab_rI_inv h) (fun v hv => by cases hv; exact ⟨_, rfl⟩)⟩
/-! StreamTransport$Row.fullNumber(I)I -/
def y_Row_fullNumber : MethodName := ⟨"StreamTransport$Row", "fullNumber", "(I)I"⟩
def t_Row_fullNumber (pc : Nat) : Option Ent :=
  bif Nat.blt pc 35 then
    (bif Nat.blt pc 19 then
      (bif Nat.blt pc 9 then
        (bif Nat.blt pc 4 then
          (bif Nat.blt pc 1 then
            (bif Nat.beq pc 0 then some (.aload_n 0, 0, 0, 0, 0) else none)
          else
            bif Nat.beq pc 1 then some (.getfield 19, 7, 1, 0, 0) else none)
        else
          bif Nat.blt pc 5 then
            (bif Nat.beq pc 4 then some (.iconst 3, 0, 0, 0, 3) else none)
          else
            bif Nat.blt pc 8 then
              (bif Nat.beq pc 5 then some (.if_icmp .lt (14), 19, 0, 0, 0) else none)
            else
              bif Nat.beq pc 8 then some (.aload_n 0, 0, 0, 0, 0) else none)
      else
        bif Nat.blt pc 13 then
          (bif Nat.blt pc 12 then
            (bif Nat.beq pc 9 then some (.getfield 9, 7, 0, 1, 0) else none)
          else
            bif Nat.beq pc 12 then some (.iconst 0, 0, 0, 0, 0) else none)
        else
          bif Nat.blt pc 14 then
            (bif Nat.beq pc 13 then some (.iaload, 0, 0, 0, 0) else none)
          else
            bif Nat.blt pc 16 then
              (bif Nat.beq pc 14 then some (.bipush 16, 0, 0, 0, 16) else none)
            else
              bif Nat.beq pc 16 then some (.if_icmp .lt (5), 21, 0, 0, 0) else none)
    else
      bif Nat.blt pc 26 then
        (bif Nat.blt pc 21 then
          (bif Nat.blt pc 20 then
            (bif Nat.beq pc 19 then some (.iconst (-1), 0, 0, 0, -1) else none)
          else
            bif Nat.beq pc 20 then some (.ireturn, 0, 0, 0, 0) else none)
        else
          bif Nat.blt pc 22 then
            (bif Nat.beq pc 21 then some (.iload_n 1, 1, 0, 0, 0) else none)
          else
            bif Nat.blt pc 23 then
              (bif Nat.beq pc 22 then some (.aload_n 0, 0, 0, 0, 0) else none)
            else
              bif Nat.beq pc 23 then some (.getfield 9, 7, 0, 1, 0) else none)
      else
        bif Nat.blt pc 29 then
          (bif Nat.blt pc 27 then
            (bif Nat.beq pc 26 then some (.iconst 0, 0, 0, 0, 0) else none)
          else
            bif Nat.blt pc 28 then
              (bif Nat.beq pc 27 then some (.iaload, 0, 0, 0, 0) else none)
            else
              bif Nat.beq pc 28 then some (.isub, 0, 0, 0, 0) else none)
        else
          bif Nat.blt pc 31 then
            (bif Nat.beq pc 29 then some (.bipush 16, 0, 0, 0, 16) else none)
          else
            bif Nat.blt pc 34 then
              (bif Nat.beq pc 31 then some (.invokestatic 41, 3, 2, 1, 0) else none)
            else
              bif Nat.beq pc 34 then some (.istore_n 2, 2, 0, 0, 0) else none)
  else
    bif Nat.blt pc 50 then
      (bif Nat.blt pc 40 then
        (bif Nat.blt pc 37 then
          (bif Nat.blt pc 36 then
            (bif Nat.beq pc 35 then some (.iload_n 1, 1, 0, 0, 0) else none)
          else
            bif Nat.beq pc 36 then some (.iload_n 2, 2, 0, 0, 0) else none)
        else
          bif Nat.blt pc 38 then
            (bif Nat.beq pc 37 then some (.isub, 0, 0, 0, 0) else none)
          else
            bif Nat.blt pc 39 then
              (bif Nat.beq pc 38 then some (.istore_n 3, 3, 0, 0, 0) else none)
            else
              bif Nat.beq pc 39 then some (.iload_n 2, 2, 0, 0, 0) else none)
      else
        bif Nat.blt pc 45 then
          (bif Nat.blt pc 42 then
            (bif Nat.beq pc 40 then some (.bipush 8, 0, 0, 0, 8) else none)
          else
            bif Nat.beq pc 42 then some (.if_icmp .lt (7), 49, 0, 0, 0) else none)
        else
          bif Nat.blt pc 46 then
            (bif Nat.beq pc 45 then some (.iconst 1, 0, 0, 0, 1) else none)
          else
            bif Nat.blt pc 49 then
              (bif Nat.beq pc 46 then some (.goto 4, 50, 0, 0, 0) else none)
            else
              bif Nat.beq pc 49 then some (.iconst 0, 0, 0, 0, 0) else none)
    else
      bif Nat.blt pc 61 then
        (bif Nat.blt pc 54 then
          (bif Nat.blt pc 52 then
            (bif Nat.beq pc 50 then some (.istore 4, 4, 0, 0, 0) else none)
          else
            bif Nat.beq pc 52 then some (.iload 4, 4, 0, 0, 0) else none)
        else
          bif Nat.blt pc 57 then
            (bif Nat.beq pc 54 then some (.ifCond .ne (7), 61, 0, 0, 0) else none)
          else
            bif Nat.blt pc 58 then
              (bif Nat.beq pc 57 then some (.iload_n 3, 3, 0, 0, 0) else none)
            else
              bif Nat.beq pc 58 then some (.ifCond .ge (10), 68, 0, 0, 0) else none)
      else
        bif Nat.blt pc 65 then
          (bif Nat.blt pc 62 then
            (bif Nat.beq pc 61 then some (.iload_n 3, 3, 0, 0, 0) else none)
          else
            bif Nat.blt pc 64 then
              (bif Nat.beq pc 62 then some (.bipush 16, 0, 0, 0, 16) else none)
            else
              bif Nat.beq pc 64 then some (.iadd, 0, 0, 0, 0) else none)
        else
          bif Nat.blt pc 68 then
            (bif Nat.beq pc 65 then some (.goto 4, 69, 0, 0, 0) else none)
          else
            bif Nat.blt pc 69 then
              (bif Nat.beq pc 68 then some (.iload_n 3, 3, 0, 0, 0) else none)
            else
              bif Nat.beq pc 69 then some (.ireturn, 0, 0, 0, 0) else none
def i_Row_fullNumber : Nat → Option Ent := ab_tab 70 t_Row_fullNumber
def h_Row_fullNumber (pc : Nat) : Nat × List Bool := bif Nat.beq pc 50 then (1, [false, false, false, true, false]) else bif Nat.beq pc 61 then (1, [false, false, false, true, false]) else (0, [])
def s_Row_fullNumber (pc : Nat) : List (Int32 × Nat) × Nat := ([], 0)
noncomputable def eV_Row_fullNumber : Nat → List AV → Mm → Option Mm := ab_ev []
noncomputable def eI_Row_fullNumber : Nat → List AV → Mm → Option (Int32 × Mm) := ab_ev [(3, c_Math_floorMod)]
noncomputable def b_Row_fullNumber_0 (f : Nat) (v0 : Nat) (v1 : Int32) (m : Mm) : Option Rs := ab_ex KT none s_Row_fullNumber eV_Row_fullNumber eI_Row_fullNumber i_Row_fullNumber h_Row_fullNumber f 0 [some (.inr (.inr (4, some v0))), some (.inl v1), none, none, none] [] m
noncomputable def b_Row_fullNumber_50 (f : Nat) (v3 : Int32) (u0 : Int32) (m : Mm) : Option Rs := ab_ex KT none s_Row_fullNumber eV_Row_fullNumber eI_Row_fullNumber i_Row_fullNumber h_Row_fullNumber f 50 [none, none, none, some (.inl v3), none] [.inl u0] m
noncomputable def b_Row_fullNumber_61 (f : Nat) (v3 : Int32) (m : Mm) : Option Rs := ab_ex KT none s_Row_fullNumber eV_Row_fullNumber eI_Row_fullNumber i_Row_fullNumber h_Row_fullNumber f 61 [none, none, none, some (.inl v3), none] [] m
set_option maxRecDepth 100000 in
set_option maxHeartbeats 4000000 in
theorem b_Row_fullNumber_0_eq (f : Nat) (v0 : Nat) (v1 : Int32) (m : Mm) : b_Row_fullNumber_0 (f + 1) v0 v1 m =
    if (m.1 11 v0 0) < (3 : Int32) then
      some (.inl (some (.inl (-1 : Int32)), m))
    else
      (ab_ix (0 : Int32) 40).bind fun i1 =>
      if (m.1 13 (v0 + 1) i1) < (16 : Int32) then
        (ab_ix (0 : Int32) 40).bind fun i2 =>
        (r_Math_floorMod (v1 - (m.1 13 (v0 + 1) i2)) (16 : Int32) m).bind fun z3 =>
        ab_let ((v1 - z3.1)) fun x4 =>
        if z3.1 < (8 : Int32) then
          b_Row_fullNumber_50 f x4 (0 : Int32) z3.2
        else
          b_Row_fullNumber_50 f x4 (1 : Int32) z3.2
      else
        some (.inl (some (.inl (-1 : Int32)), m)) := rfl
set_option maxRecDepth 100000 in
set_option maxHeartbeats 4000000 in
theorem b_Row_fullNumber_50_eq (f : Nat) (v3 : Int32) (u0 : Int32) (m : Mm) : b_Row_fullNumber_50 (f + 1) v3 u0 m =
    if u0 = 0 then
      if 0 ≤ v3 then
        some (.inl (some (.inl v3), m))
      else
        b_Row_fullNumber_61 f v3 m
    else
      b_Row_fullNumber_61 f v3 m := rfl
set_option maxRecDepth 100000 in
set_option maxHeartbeats 4000000 in
theorem b_Row_fullNumber_61_eq (f : Nat) (v3 : Int32) (m : Mm) : b_Row_fullNumber_61 (f + 1) v3 m =
    some (.inl (some (.inl (v3 + (16 : Int32))), m)) := rfl
noncomputable def r_Row_fullNumber : Nat → Int32 → Mm → Option (Int32 × Mm) := ab_seal fun v0 v1 m => ab_rI (b_Row_fullNumber_0 50000 v0 v1 m)
theorem r_Row_fullNumber_eq (v0 : Nat) (v1 : Int32) (m : Mm) : r_Row_fullNumber v0 v1 m = ab_rI (b_Row_fullNumber_0 50000 v0 v1 m) := by
  unfold r_Row_fullNumber
  rw [ab_seal_eq]
noncomputable def c_Row_fullNumber : List AV → Mm → Option (Int32 × Mm) := fun av m => match av with
  | [.inr (.inr (kv0, ov0)), .inl v1] => if kv0 = 4 then (ov0.bind fun v0 => r_Row_fullNumber v0 v1 m) else none
  | _ => none
theorem c_Row_fullNumber_inv {av : List AV} {m : Mm} {r : Int32 × Mm} (h : c_Row_fullNumber av m = some r) : ∃ (v0 : Nat) (v1 : Int32), av = [.inr (.inr (4, some v0)), .inl v1] ∧ r_Row_fullNumber v0 v1 m = some r := by
  unfold c_Row_fullNumber at h
  split at h
  · rename_i kv0 ov0 v1
    by_cases hkv0 : kv0 = 4
    case neg => rw [if_neg hkv0] at h; cases h
    rw [if_pos hkv0] at h
    subst hkv0
    obtain ⟨v0, hev0, h⟩ := Option.bind_eq_some_iff.mp h
    subst hev0
    exact ⟨v0, v1, rfl, h⟩
  · cases h
def cs_Row_fullNumber : List Nat := [31]
set_option maxRecDepth 100000 in
theorem E_Row_fullNumber : ∀ (pc : Nat) (q : Ent), i_Row_fullNumber pc = some q → ab_E KT CL ab_gW "StreamTransport$Row" "fullNumber" (some .int) prog_9_method_10_code s_Row_fullNumber 5 pc q.1 q.2.1 q.2.2.1 q.2.2.2.1 q.2.2.2.2 := fun pc q hq =>
  ab_Eb_ok lc_Row lj_Row fl_Row (fpn_Row "fullNumber") nw_Row na_Row nq_Row (ab_tab_all (t := t_Row_fullNumber) (chk := fun pc q => ab_Eb (some .int) prog_9_method_10_code s_Row_fullNumber 5 LC_Row LJ_Row FL_Row FPn_Row NW_Row NA_Row NQ_Row pc q.1 q.2.1 q.2.2.1 q.2.2.2.1 q.2.2.2.2) (by decide +kernel) hq)
set_option maxRecDepth 100000 in
theorem kp_Row_fullNumber {av : List AV} {m : Mm} {r : Int32 × Mm} (h : c_Row_fullNumber av m = some r) : ab_kp m r.2 := by
  obtain ⟨v0, v1, -, h⟩ := c_Row_fullNumber_inv h
  rw [r_Row_fullNumber_eq] at h
  have hV : ∀ a av m m', eV_Row_fullNumber a av m = some m' → ab_kp m m' := ab_ev_all (P := fun _ m r => ab_kp m r) [] (fun q hq => by cases hq)
  have hI : ∀ a av m q, eI_Row_fullNumber a av m = some q → ab_kp m q.2 := ab_ev_all (P := fun _ (m : Mm) (r : Int32 × Mm) => ab_kp m r.2) [(3, c_Math_floorMod)] (List.forall_mem_cons.mpr ⟨fun av m r h => kp_Math_floorMod h, fun q hq => by cases hq⟩)
  exact ab_kprel (ρ := .inl (some (.inl r.1), r.2)) (ab_tab_isn (t := t_Row_fullNumber) (by decide +kernel)) hV hI (ab_rI_inv h)
set_option maxRecDepth 100000 in
theorem cl_Row_fullNumber (l : Launch) : ∀ (pc : Nat) (q : Ent), i_Row_fullNumber pc = some q → ab_inv q.1 = true → ab_CR l KT CL none ab_gW "StreamTransport$Row" prog_9_method_10_code 5 1 22 eV_Row_fullNumber eI_Row_fullNumber pc q := by
  intro pc q hq hi
  have hm : pc ∈ cs_Row_fullNumber := ab_tab_cs (t := t_Row_fullNumber) (by decide +kernel) hq hi
  simp only [cs_Row_fullNumber, List.mem_cons, List.not_mem_nil, or_false] at hm
  rcases hm with rfl
  · cases (Option.some.inj hq : ((.invokestatic 41, 3, 2, 1, 0) : Ent) = q)
    exact ab_crS (by decide +kernel) cw_Math_floorMod (ab_gW_in 618 (by decide +kernel) rfl) st_Math_floorMod (by decide) (fun av m m' h => by cases h) (fun av m r h => cm_Math_floorMod l h) KT_nd
theorem cw_Row_fullNumber : ab_cw y_Row_fullNumber prog_9_method_10_code 5 1 (some .int) := ⟨ab_gW_in 617 (by decide +kernel) rfl, ab_gW_in 62 (by decide +kernel) rfl, by decide +kernel, by decide +kernel, by decide +kernel⟩
theorem is_Row_fullNumber : Cond.instanceMethod y_Row_fullNumber ∈ ab_gW := ab_gW_in 615 (by decide +kernel) rfl
theorem sl_Row_fullNumber : Cond.selects "StreamTransport$Row" y_Row_fullNumber y_Row_fullNumber ∈ ab_gW := ab_gW_in 616 (by decide +kernel) rfl
set_option maxRecDepth 100000 in
theorem cm_Row_fullNumber (l : Launch) {av : List AV} {m : Mm} {r : Int32 × Mm} (h0 : c_Row_fullNumber av m = some r) : ∃ (k q : Nat) (av' : List AV) (ci : Nat) (fs : List (Nat × Nat × Nat × Nat)) (z : vw_C), av = .inr (.inr (k, some q)) :: av' ∧ av'.length = 1 ∧ k ≠ 0 ∧ KT[k]? = some (.inl (ci, fs)) ∧ CL[ci]? = some z ∧ z.1 = "StreamTransport$Row" ∧ ab_nos av' ∧ ab_Met l KT CL y_Row_fullNumber (Cond.code y_Row_fullNumber prog_9_method_10_code 5 (some .int) :: ab_gW) 1 22 none av m (some (.inl r.1)) r.2 := by
  obtain ⟨v0, v1, hav, h⟩ := c_Row_fullNumber_inv h0
  rw [r_Row_fullNumber_eq] at h
  have hmo : ab_mo m r.2 := ab_kp_mo (kp_Row_fullNumber h0)
  subst hav
  exact ⟨_, _, _, _, _, _, rfl, rfl, by decide, rfl, rfl, rfl, (by intro v hv q e; subst e; simp at hv), ab_met (by decide +kernel) KT_0 KT_nd KT_k3 E_Row_fullNumber (cl_Row_fullNumber l) hmo (Nat.le_of_ble_eq_true rfl) (ab_rI_inv h) (fun v hv => by cases hv; exact ⟨_, rfl⟩)⟩
end
