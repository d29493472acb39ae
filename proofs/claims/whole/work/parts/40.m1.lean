section
def FLp_M : List ((Nat × Nat × Nat) × Nat) := [((7, 10, 4), 990), ((13, 10, 5), 991), ((16, 10, 6), 992), ((19, 10, 7), 993), ((22, 10, 8), 994), ((25, 10, 9), 995), ((28, 10, 10), 996), ((31, 10, 11), 997), ((35, 10, 12), 998), ((38, 10, 13), 999), ((41, 10, 14), 1000), ((44, 10, 15), 1001), ((47, 10, 16), 1002), ((50, 10, 17), 1003), ((53, 10, 18), 1004), ((56, 10, 19), 1005), ((59, 10, 20), 1006), ((62, 10, 21), 1007), ((65, 10, 22), 1008), ((68, 10, 23), 1009), ((71, 10, 24), 1010), ((74, 10, 25), 1011), ((77, 10, 26), 1012), ((80, 10, 27), 1013), ((83, 10, 28), 1014), ((86, 10, 29), 1015), ((89, 10, 30), 1016), ((92, 10, 31), 1017), ((95, 10, 32), 1018), ((98, 10, 33), 1019), ((101, 10, 34), 1020), ((104, 10, 35), 1021), ((107, 10, 36), 1022), ((110, 10, 38), 1024), ((113, 10, 39), 1025), ((116, 10, 40), 1026), ((119, 10, 41), 1027), ((122, 10, 47), 1033), ((125, 10, 48), 1034), ((128, 10, 0), 986), ((132, 10, 1), 987), ((135, 10, 3), 989), ((162, 10, 44), 1030), ((180, 10, 49), 1035), ((183, 10, 50), 1036), ((186, 10, 51), 1037), ((217, 10, 37), 1023), ((220, 10, 43), 1029), ((223, 10, 42), 1028), ((226, 10, 46), 1032), ((271, 10, 45), 1031), ((274, 10, 2), 988)]
def FL_M : List (Nat × Nat × Nat) := [(7, 10, 4), (13, 10, 5), (16, 10, 6), (19, 10, 7), (22, 10, 8), (25, 10, 9), (28, 10, 10), (31, 10, 11), (35, 10, 12), (38, 10, 13), (41, 10, 14), (44, 10, 15), (47, 10, 16), (50, 10, 17), (53, 10, 18), (56, 10, 19), (59, 10, 20), (62, 10, 21), (65, 10, 22), (68, 10, 23), (71, 10, 24), (74, 10, 25), (77, 10, 26), (80, 10, 27), (83, 10, 28), (86, 10, 29), (89, 10, 30), (92, 10, 31), (95, 10, 32), (98, 10, 33), (101, 10, 34), (104, 10, 35), (107, 10, 36), (110, 10, 38), (113, 10, 39), (116, 10, 40), (119, 10, 41), (122, 10, 47), (125, 10, 48), (128, 10, 0), (132, 10, 1), (135, 10, 3), (162, 10, 44), (180, 10, 49), (183, 10, 50), (186, 10, 51), (217, 10, 37), (220, 10, 43), (223, 10, 42), (226, 10, 46), (271, 10, 45), (274, 10, 2)]
theorem fl_M : ∀ q ∈ FL_M, ab_fld CL ab_gW "StreamTransportModel" q.1 q.2.1 q.2.2 := ab_flb_ok (own := "StreamTransportModel") (l := FLp_M) (by decide +kernel)
def FPnp_M : List ((Nat × Nat × Nat) × Nat) := [((135, 10, 3), 989), ((162, 10, 44), 1030), ((180, 10, 49), 1035), ((183, 10, 50), 1036), ((186, 10, 51), 1037), ((217, 10, 37), 1023), ((220, 10, 43), 1029), ((223, 10, 42), 1028), ((226, 10, 46), 1032), ((271, 10, 45), 1031), ((274, 10, 2), 988)]
def FPn_M : List (Nat × Nat × Nat) := [(135, 10, 3), (162, 10, 44), (180, 10, 49), (183, 10, 50), (186, 10, 51), (217, 10, 37), (220, 10, 43), (223, 10, 42), (226, 10, 46), (271, 10, 45), (274, 10, 2)]
theorem fpn_M (nm : String) : ∀ q ∈ FPn_M, ∃ ty, ab_fldp CL ab_gW "StreamTransportModel" nm q.1 q.2.1 q.2.2 ty ∧ ∀ (k t r k' d' : Nat), ab_fs KT q.2.1 q.2.2 k = some (t, r, k', d') → (t = 0 → ty = .int) ∧ (t = 1 → ty = .boolean) ∧ (t = 2 → ((∃ n, ty = .object n) ∨ ∃ t, ty = .array t) ∧ k' ≠ 0) := ab_fpb_ok (own := "StreamTransportModel") (nm := nm) (l := FPnp_M) (ab_fpn_ok (by decide +kernel))
def FPip_M : List ((Nat × Nat × Nat) × Nat) := [((7, 10, 4), 990), ((13, 10, 5), 991), ((16, 10, 6), 992), ((19, 10, 7), 993), ((22, 10, 8), 994), ((25, 10, 9), 995), ((28, 10, 10), 996), ((31, 10, 11), 997), ((35, 10, 12), 998), ((38, 10, 13), 999), ((41, 10, 14), 1000), ((44, 10, 15), 1001), ((47, 10, 16), 1002), ((50, 10, 17), 1003), ((53, 10, 18), 1004), ((56, 10, 19), 1005), ((59, 10, 20), 1006), ((62, 10, 21), 1007), ((65, 10, 22), 1008), ((68, 10, 23), 1009), ((71, 10, 24), 1010), ((74, 10, 25), 1011), ((77, 10, 26), 1012), ((80, 10, 27), 1013), ((83, 10, 28), 1014), ((86, 10, 29), 1015), ((89, 10, 30), 1016), ((92, 10, 31), 1017), ((95, 10, 32), 1018), ((98, 10, 33), 1019), ((101, 10, 34), 1020), ((104, 10, 35), 1021), ((107, 10, 36), 1022), ((110, 10, 38), 1024), ((113, 10, 39), 1025), ((116, 10, 40), 1026), ((119, 10, 41), 1027), ((122, 10, 47), 1033), ((125, 10, 48), 1034), ((128, 10, 0), 986), ((132, 10, 1), 987), ((135, 10, 3), 989), ((162, 10, 44), 1030), ((180, 10, 49), 1035), ((183, 10, 50), 1036), ((186, 10, 51), 1037), ((217, 10, 37), 1023), ((220, 10, 43), 1029), ((223, 10, 42), 1028), ((226, 10, 46), 1032), ((271, 10, 45), 1031), ((274, 10, 2), 988)]
def FPi_M : List (Nat × Nat × Nat) := [(7, 10, 4), (13, 10, 5), (16, 10, 6), (19, 10, 7), (22, 10, 8), (25, 10, 9), (28, 10, 10), (31, 10, 11), (35, 10, 12), (38, 10, 13), (41, 10, 14), (44, 10, 15), (47, 10, 16), (50, 10, 17), (53, 10, 18), (56, 10, 19), (59, 10, 20), (62, 10, 21), (65, 10, 22), (68, 10, 23), (71, 10, 24), (74, 10, 25), (77, 10, 26), (80, 10, 27), (83, 10, 28), (86, 10, 29), (89, 10, 30), (92, 10, 31), (95, 10, 32), (98, 10, 33), (101, 10, 34), (104, 10, 35), (107, 10, 36), (110, 10, 38), (113, 10, 39), (116, 10, 40), (119, 10, 41), (122, 10, 47), (125, 10, 48), (128, 10, 0), (132, 10, 1), (135, 10, 3), (162, 10, 44), (180, 10, 49), (183, 10, 50), (186, 10, 51), (217, 10, 37), (220, 10, 43), (223, 10, 42), (226, 10, 46), (271, 10, 45), (274, 10, 2)]
theorem fpi_M : ∀ q ∈ FPi_M, ∃ ty, ab_fldp CL ab_gW "StreamTransportModel" "<init>" q.1 q.2.1 q.2.2 ty ∧ ∀ (k t r k' d' : Nat), ab_fs KT q.2.1 q.2.2 k = some (t, r, k', d') → (t = 0 → ty = .int) ∧ (t = 1 → ty = .boolean) ∧ (t = 2 → ((∃ n, ty = .object n) ∨ ∃ t, ty = .array t) ∧ k' ≠ 0) := ab_fpb_ok (own := "StreamTransportModel") (nm := "<init>") (l := FPip_M) (by decide +kernel)
def LCp_M : List ((Nat × Int32) × Nat) := [((214, 40503), 1237), ((215, 16777619), 1238), ((216, 65535), 1239), ((233, 40504), 1264)]
def LC_M : List (Nat × Int32) := [(214, 40503), (215, 16777619), (216, 65535), (233, 40504)]
theorem lc_M : ∀ q ∈ LC_M, Cond.constant "StreamTransportModel" q.1 q.2 ∈ ab_gW := ab_lcb (own := "StreamTransportModel") (l := LCp_M) (by decide +kernel)
def LJp_M : List ((Nat × Nat) × Nat) := [((150, 255), 1161), ((254, 2), 1277)]
def LJ_M : List (Nat × Nat) := [(150, 255), (254, 2)]
theorem lj_M : ∀ q ∈ LJ_M, Cond.constantLong "StreamTransportModel" q.1 (Int64.ofNat q.2) ∈ ab_gW := ab_ljb (own := "StreamTransportModel") (l := LJp_M) (by decide +kernel)
def NWp_M : List ((Nat × Nat) × Nat × Nat × Nat) := []
def NW_M : List (Nat × Nat) := []
theorem nw_M : ∀ q ∈ NW_M, ab_newok KT CL ab_gW "StreamTransportModel" q.1 q.2 := ab_nwb_ok (own := "StreamTransportModel") (l := NWp_M) (by decide +kernel)
def NQp_M : List ((Nat × Nat) × Nat) := []
def NQ_M : List (Nat × Nat) := []
theorem nq_M : ∀ q ∈ NQ_M, ab_nqok KT CL ab_gW "StreamTransportModel" q.1 q.2 := ab_nqb_ok (own := "StreamTransportModel") (l := NQp_M) (by decide +kernel)
def NA_M : List (Nat × Nat) := [(0, 29), (0, 30), (0, 31), (0, 32), (0, 33), (0, 34), (0, 35), (0, 38), (0, 39), (0, 40), (0, 41), (0, 42), (0, 45), (0, 46), (0, 47), (0, 48), (0, 49), (0, 50), (0, 51), (0, 52), (0, 57), (0, 58), (0, 59), (0, 60), (0, 61), (0, 62), (0, 63), (0, 64), (0, 65), (0, 66), (0, 67), (1, 36), (1, 37), (1, 43), (1, 44), (1, 53), (1, 54), (1, 55), (1, 56)]
theorem na_M : ∀ q ∈ NA_M, (q.1 = 0 → ab_naok KT CL ab_gW .int q.2) ∧ (q.1 = 1 → ab_naok KT CL ab_gW .boolean q.2) ∧ (q.1 = 2 → ab_naok KT CL ab_gW .long q.2) := ab_nab_ok (by decide +kernel)
/-! StreamTransportModel.thrown()I -/
def y_M_thrown : MethodName := ⟨"StreamTransportModel", "thrown", "()I"⟩
def t_M_thrown (pc : Nat) : Option Ent :=
  bif Nat.blt pc 1 then
    (bif Nat.beq pc 0 then some (.aload_n 0, 0, 0, 0, 0) else none)
  else
    bif Nat.blt pc 4 then
      (bif Nat.beq pc 1 then some (.getfield 135, 10, 3, 0, 0) else none)
    else
      bif Nat.beq pc 4 then some (.ireturn, 0, 0, 0, 0) else none
def i_M_thrown : Nat → Option Ent := ab_tab 5 t_M_thrown
def h_M_thrown (pc : Nat) : Nat × List Bool := (0, [])
def s_M_thrown (pc : Nat) : List (Int32 × Nat) × Nat := ([], 0)
noncomputable def eV_M_thrown : Nat → List AV → Mm → Option Mm := ab_ev []
noncomputable def eI_M_thrown : Nat → List AV → Mm → Option (Int32 × Mm) := ab_ev []
noncomputable def b_M_thrown_0 (f : Nat) (v0 : Nat) (m : Mm) : Option Rs := ab_ex KT none s_M_thrown eV_M_thrown eI_M_thrown i_M_thrown h_M_thrown f 0 [some (.inr (.inr (28, some v0)))] [] m
set_option maxRecDepth 100000 in
set_option maxHeartbeats 4000000 in
theorem b_M_thrown_0_eq (f : Nat) (v0 : Nat) (m : Mm) : b_M_thrown_0 (f + 1) v0 m =
    some (.inl (some (.inl (m.1 84 v0 0)), m)) := rfl
noncomputable def r_M_thrown : Nat → Mm → Option (Int32 × Mm) := ab_seal fun v0 m => ab_rI (b_M_thrown_0 50000 v0 m)
theorem r_M_thrown_eq (v0 : Nat) (m : Mm) : r_M_thrown v0 m = ab_rI (b_M_thrown_0 50000 v0 m) := by
  unfold r_M_thrown
  rw [ab_seal_eq]
noncomputable def c_M_thrown : List AV → Mm → Option (Int32 × Mm) := fun av m => match av with
  | [.inr (.inr (kv0, ov0))] => if kv0 = 28 then (ov0.bind fun v0 => r_M_thrown v0 m) else none
  | _ => none
theorem c_M_thrown_inv {av : List AV} {m : Mm} {r : Int32 × Mm} (h : c_M_thrown av m = some r) : ∃ (v0 : Nat), av = [.inr (.inr (28, some v0))] ∧ r_M_thrown v0 m = some r := by
  unfold c_M_thrown at h
  split at h
  · rename_i kv0 ov0
    by_cases hkv0 : kv0 = 28
    case neg => rw [if_neg hkv0] at h; cases h
    rw [if_pos hkv0] at h
    subst hkv0
    obtain ⟨v0, hev0, h⟩ := Option.bind_eq_some_iff.mp h
    subst hev0
    exact ⟨v0, rfl, h⟩
  · cases h
def cs_M_thrown : List Nat := []
set_option maxRecDepth 100000 in
theorem E_M_thrown : ∀ (pc : Nat) (q : Ent), i_M_thrown pc = some q → ab_E KT CL ab_gW "StreamTransportModel" "thrown" (some .int) prog_12_method_2_code s_M_thrown 1 pc q.1 q.2.1 q.2.2.1 q.2.2.2.1 q.2.2.2.2 := fun pc q hq =>
  ab_Eb_ok lc_M lj_M fl_M (fpn_M "thrown") nw_M na_M nq_M (ab_tab_all (t := t_M_thrown) (chk := fun pc q => ab_Eb (some .int) prog_12_method_2_code s_M_thrown 1 LC_M LJ_M FL_M FPn_M NW_M NA_M NQ_M pc q.1 q.2.1 q.2.2.1 q.2.2.2.1 q.2.2.2.2) (by decide +kernel) hq)
set_option maxRecDepth 100000 in
theorem kp_M_thrown {av : List AV} {m : Mm} {r : Int32 × Mm} (h : c_M_thrown av m = some r) : ab_kp m r.2 := by
  obtain ⟨v0, -, h⟩ := c_M_thrown_inv h
  rw [r_M_thrown_eq] at h
  have hV : ∀ a av m m', eV_M_thrown a av m = some m' → ab_kp m m' := ab_ev_all (P := fun _ m r => ab_kp m r) [] (fun q hq => by cases hq)
  have hI : ∀ a av m q, eI_M_thrown a av m = some q → ab_kp m q.2 := ab_ev_all (P := fun _ (m : Mm) (r : Int32 × Mm) => ab_kp m r.2) [] (fun q hq => by cases hq)
  exact ab_kprel (ρ := .inl (some (.inl r.1), r.2)) (ab_tab_isn (t := t_M_thrown) (by decide +kernel)) hV hI (ab_rI_inv h)
set_option maxRecDepth 100000 in
theorem cl_M_thrown (l : Launch) : ∀ (pc : Nat) (q : Ent), i_M_thrown pc = some q → ab_inv q.1 = true → ab_CR l KT CL none ab_gW "StreamTransportModel" prog_12_method_2_code 1 0 0 eV_M_thrown eI_M_thrown pc q := by
  intro pc q hq hi
  have hm : pc ∈ cs_M_thrown := ab_tab_cs (t := t_M_thrown) (by decide +kernel) hq hi
  cases hm
theorem cw_M_thrown : ab_cw y_M_thrown prog_12_method_2_code 1 0 (some .int) := ⟨ab_gW_in 1146 (by decide +kernel) rfl, ab_gW_in 71 (by decide +kernel) rfl, by decide +kernel, by decide +kernel, by decide +kernel⟩
theorem is_M_thrown : Cond.instanceMethod y_M_thrown ∈ ab_gW := ab_gW_in 1144 (by decide +kernel) rfl
theorem sl_M_thrown : Cond.selects "StreamTransportModel" y_M_thrown y_M_thrown ∈ ab_gW := ab_gW_in 1145 (by decide +kernel) rfl
set_option maxRecDepth 100000 in
theorem cm_M_thrown (l : Launch) {av : List AV} {m : Mm} {r : Int32 × Mm} (h0 : c_M_thrown av m = some r) : ∃ (k q : Nat) (av' : List AV) (ci : Nat) (fs : List (Nat × Nat × Nat × Nat)) (z : vw_C), av = .inr (.inr (k, some q)) :: av' ∧ av'.length = 0 ∧ k ≠ 0 ∧ KT[k]? = some (.inl (ci, fs)) ∧ CL[ci]? = some z ∧ z.1 = "StreamTransportModel" ∧ ab_nos av' ∧ ab_Met l KT CL y_M_thrown (Cond.code y_M_thrown prog_12_method_2_code 1 (some .int) :: ab_gW) 0 0 none av m (some (.inl r.1)) r.2 := by
  obtain ⟨v0, hav, h⟩ := c_M_thrown_inv h0
  rw [r_M_thrown_eq] at h
  have hmo : ab_mo m r.2 := ab_kp_mo (kp_M_thrown h0)
  subst hav
  exact ⟨_, _, _, _, _, _, rfl, rfl, by decide, rfl, rfl, rfl, (by intro v hv q e; subst e; simp at hv), ab_met (by decide +kernel) KT_0 KT_nd KT_k3 E_M_thrown (cl_M_thrown l) hmo (Nat.le_of_ble_eq_true rfl) (ab_rI_inv h) (fun v hv => by cases hv; exact ⟨_, rfl⟩)⟩
/-! StreamTransportModel.fails(I)I -/
def y_M_fails : MethodName := ⟨"StreamTransportModel", "fails", "(I)I"⟩
def t_M_fails (pc : Nat) : Option Ent :=
  bif Nat.blt pc 2 then
    (bif Nat.blt pc 1 then
      (bif Nat.beq pc 0 then some (.aload_n 0, 0, 0, 0, 0) else none)
    else
      bif Nat.beq pc 1 then some (.iload_n 1, 1, 0, 0, 0) else none)
  else
    bif Nat.blt pc 5 then
      (bif Nat.beq pc 2 then some (.putfield 135, 10, 3, 0, 0) else none)
    else
      bif Nat.blt pc 6 then
        (bif Nat.beq pc 5 then some (.iconst 0, 0, 0, 0, 0) else none)
      else
        bif Nat.beq pc 6 then some (.ireturn, 0, 0, 0, 0) else none
def i_M_fails : Nat → Option Ent := ab_tab 7 t_M_fails
def h_M_fails (pc : Nat) : Nat × List Bool := (0, [])
def s_M_fails (pc : Nat) : List (Int32 × Nat) × Nat := ([], 0)
noncomputable def eV_M_fails : Nat → List AV → Mm → Option Mm := ab_ev []
noncomputable def eI_M_fails : Nat → List AV → Mm → Option (Int32 × Mm) := ab_ev []
noncomputable def b_M_fails_0 (f : Nat) (v0 : Nat) (v1 : Int32) (m : Mm) : Option Rs := ab_ex KT none s_M_fails eV_M_fails eI_M_fails i_M_fails h_M_fails f 0 [some (.inr (.inr (28, some v0))), some (.inl v1)] [] m
set_option maxRecDepth 100000 in
set_option maxHeartbeats 4000000 in
theorem b_M_fails_0_eq (f : Nat) (v0 : Nat) (v1 : Int32) (m : Mm) : b_M_fails_0 (f + 1) v0 v1 m =
    ab_let (ab_uI m 84 v0 0 v1) fun m1 =>
    some (.inl (some (.inl (0 : Int32)), m1)) := rfl
noncomputable def r_M_fails : Nat → Int32 → Mm → Option (Int32 × Mm) := ab_seal fun v0 v1 m => ab_rI (b_M_fails_0 50000 v0 v1 m)
theorem r_M_fails_eq (v0 : Nat) (v1 : Int32) (m : Mm) : r_M_fails v0 v1 m = ab_rI (b_M_fails_0 50000 v0 v1 m) := by
  unfold r_M_fails
  rw [ab_seal_eq]
noncomputable def c_M_fails : List AV → Mm → Option (Int32 × Mm) := fun av m => match av with
  | [.inr (.inr (kv0, ov0)), .inl v1] => if kv0 = 28 then (ov0.bind fun v0 => r_M_fails v0 v1 m) else none
  | _ => none
theorem c_M_fails_inv {av : List AV} {m : Mm} {r : Int32 × Mm} (h : c_M_fails av m = some r) : ∃ (v0 : Nat) (v1 : Int32), av = [.inr (.inr (28, some v0)), .inl v1] ∧ r_M_fails v0 v1 m = some r := by
  unfold c_M_fails at h
  split at h
  · rename_i kv0 ov0 v1
    by_cases hkv0 : kv0 = 28
    case neg => rw [if_neg hkv0] at h; cases h
    rw [if_pos hkv0] at h
    subst hkv0
    obtain ⟨v0, hev0, h⟩ := Option.bind_eq_some_iff.mp h
    subst hev0
    exact ⟨v0, v1, rfl, h⟩
  · cases h
def cs_M_fails : List Nat := []
set_option maxRecDepth 100000 in
theorem E_M_fails : ∀ (pc : Nat) (q : Ent), i_M_fails pc = some q → ab_E KT CL ab_gW "StreamTransportModel" "fails" (some .int) prog_12_method_3_code s_M_fails 2 pc q.1 q.2.1 q.2.2.1 q.2.2.2.1 q.2.2.2.2 := fun pc q hq =>
  ab_Eb_ok lc_M lj_M fl_M (fpn_M "fails") nw_M na_M nq_M (ab_tab_all (t := t_M_fails) (chk := fun pc q => ab_Eb (some .int) prog_12_method_3_code s_M_fails 2 LC_M LJ_M FL_M FPn_M NW_M NA_M NQ_M pc q.1 q.2.1 q.2.2.1 q.2.2.2.1 q.2.2.2.2) (by decide +kernel) hq)
set_option maxRecDepth 100000 in
theorem kp_M_fails {av : List AV} {m : Mm} {r : Int32 × Mm} (h : c_M_fails av m = some r) : ab_kp m r.2 := by
  obtain ⟨v0, v1, -, h⟩ := c_M_fails_inv h
  rw [r_M_fails_eq] at h
  have hV : ∀ a av m m', eV_M_fails a av m = some m' → ab_kp m m' := ab_ev_all (P := fun _ m r => ab_kp m r) [] (fun q hq => by cases hq)
  have hI : ∀ a av m q, eI_M_fails a av m = some q → ab_kp m q.2 := ab_ev_all (P := fun _ (m : Mm) (r : Int32 × Mm) => ab_kp m r.2) [] (fun q hq => by cases hq)
  exact ab_kprel (ρ := .inl (some (.inl r.1), r.2)) (ab_tab_isn (t := t_M_fails) (by decide +kernel)) hV hI (ab_rI_inv h)
set_option maxRecDepth 100000 in
theorem cl_M_fails (l : Launch) : ∀ (pc : Nat) (q : Ent), i_M_fails pc = some q → ab_inv q.1 = true → ab_CR l KT CL none ab_gW "StreamTransportModel" prog_12_method_3_code 2 0 0 eV_M_fails eI_M_fails pc q := by
  intro pc q hq hi
  have hm : pc ∈ cs_M_fails := ab_tab_cs (t := t_M_fails) (by decide +kernel) hq hi
  cases hm
theorem cw_M_fails : ab_cw y_M_fails prog_12_method_3_code 2 1 (some .int) := ⟨ab_gW_in 1160 (by decide +kernel) rfl, ab_gW_in 71 (by decide +kernel) rfl, by decide +kernel, by decide +kernel, by decide +kernel⟩
theorem is_M_fails : Cond.instanceMethod y_M_fails ∈ ab_gW := ab_gW_in 1159 (by decide +kernel) rfl
theorem sl_M_fails : Cond.selects "StreamTransportModel" y_M_fails y_M_fails ∈ ab_gW := ab_gW_in 31 (by decide +kernel) rfl
set_option maxRecDepth 100000 in
theorem cm_M_fails (l : Launch) {av : List AV} {m : Mm} {r : Int32 × Mm} (h0 : c_M_fails av m = some r) : ∃ (k q : Nat) (av' : List AV) (ci : Nat) (fs : List (Nat × Nat × Nat × Nat)) (z : vw_C), av = .inr (.inr (k, some q)) :: av' ∧ av'.length = 1 ∧ k ≠ 0 ∧ KT[k]? = some (.inl (ci, fs)) ∧ CL[ci]? = some z ∧ z.1 = "StreamTransportModel" ∧ ab_nos av' ∧ ab_Met l KT CL y_M_fails (Cond.code y_M_fails prog_12_method_3_code 2 (some .int) :: ab_gW) 0 0 none av m (some (.inl r.1)) r.2 := by
  obtain ⟨v0, v1, hav, h⟩ := c_M_fails_inv h0
  rw [r_M_fails_eq] at h
  have hmo : ab_mo m r.2 := ab_kp_mo (kp_M_fails h0)
  subst hav
  exact ⟨_, _, _, _, _, _, rfl, rfl, by decide, rfl, rfl, rfl, (by intro v hv q e; subst e; simp at hv), ab_met (by decide +kernel) KT_0 KT_nd KT_k3 E_M_fails (cl_M_fails l) hmo (Nat.le_of_ble_eq_true rfl) (ab_rI_inv h) (fun v hv => by cases hv; exact ⟨_, rfl⟩)⟩
/-! StreamTransportModel.in(III)Z -/
def y_M_in : MethodName := ⟨"StreamTransportModel", "in", "(III)Z"⟩
def t_M_in (pc : Nat) : Option Ent :=
  bif Nat.blt pc 7 then
    (bif Nat.blt pc 2 then
      (bif Nat.blt pc 1 then
        (bif Nat.beq pc 0 then some (.iload_n 0, 0, 0, 0, 0) else none)
      else
        bif Nat.beq pc 1 then some (.iload_n 1, 1, 0, 0, 0) else none)
    else
      bif Nat.blt pc 5 then
        (bif Nat.beq pc 2 then some (.if_icmp .lt (12), 14, 0, 0, 0) else none)
      else
        bif Nat.blt pc 6 then
          (bif Nat.beq pc 5 then some (.iload_n 0, 0, 0, 0, 0) else none)
        else
          bif Nat.beq pc 6 then some (.iload_n 2, 2, 0, 0, 0) else none)
  else
    bif Nat.blt pc 11 then
      (bif Nat.blt pc 10 then
        (bif Nat.beq pc 7 then some (.if_icmp .gt (7), 14, 0, 0, 0) else none)
      else
        bif Nat.beq pc 10 then some (.iconst 1, 0, 0, 0, 1) else none)
    else
      bif Nat.blt pc 14 then
        (bif Nat.beq pc 11 then some (.goto 4, 15, 0, 0, 0) else none)
      else
        bif Nat.blt pc 15 then
          (bif Nat.beq pc 14 then some (.iconst 0, 0, 0, 0, 0) else none)
        else
          bif Nat.beq pc 15 then some (.ireturn, 0, 0, 1, 0) else none
def i_M_in : Nat → Option Ent := ab_tab 16 t_M_in
def h_M_in (pc : Nat) : Nat × List Bool := (0, [])
def s_M_in (pc : Nat) : List (Int32 × Nat) × Nat := ([], 0)
noncomputable def eV_M_in : Nat → List AV → Mm → Option Mm := ab_ev []
noncomputable def eI_M_in : Nat → List AV → Mm → Option (Int32 × Mm) := ab_ev []
noncomputable def b_M_in_0 (f : Nat) (v0 : Int32) (v1 : Int32) (v2 : Int32) (m : Mm) : Option Rs := ab_ex KT none s_M_in eV_M_in eI_M_in i_M_in h_M_in f 0 [some (.inl v0), some (.inl v1), some (.inl v2)] [] m
set_option maxRecDepth 100000 in
set_option maxHeartbeats 4000000 in
theorem b_M_in_0_eq (f : Nat) (v0 : Int32) (v1 : Int32) (v2 : Int32) (m : Mm) : b_M_in_0 (f + 1) v0 v1 v2 m =
    if v0 < v1 then
      (ab_bo (0 : Int32)).bind fun y1 => some (.inl (some (.inl y1), m))
    else
      if v2 < v0 then
        (ab_bo (0 : Int32)).bind fun y2 => some (.inl (some (.inl y2), m))
      else
        (ab_bo (1 : Int32)).bind fun y3 => some (.inl (some (.inl y3), m)) := rfl
noncomputable def r_M_in : Int32 → Int32 → Int32 → Mm → Option (Int32 × Mm) := ab_seal fun v0 v1 v2 m => ab_rI (b_M_in_0 50000 v0 v1 v2 m)
theorem r_M_in_eq (v0 : Int32) (v1 : Int32) (v2 : Int32) (m : Mm) : r_M_in v0 v1 v2 m = ab_rI (b_M_in_0 50000 v0 v1 v2 m) := by
  unfold r_M_in
  rw [ab_seal_eq]
noncomputable def c_M_in : List AV → Mm → Option (Int32 × Mm) := fun av m => match av with
  | [.inl v0, .inl v1, .inl v2] => r_M_in v0 v1 v2 m
  | _ => none
theorem c_M_in_inv {av : List AV} {m : Mm} {r : Int32 × Mm} (h : c_M_in av m = some r) : ∃ (v0 : Int32) (v1 : Int32) (v2 : Int32), av = [.inl v0, .inl v1, .inl v2] ∧ r_M_in v0 v1 v2 m = some r := by
  unfold c_M_in at h
  split at h
  · rename_i v0 v1 v2
    exact ⟨v0, v1, v2, rfl, h⟩
  · cases h
def cs_M_in : List Nat := []
set_option maxRecDepth 100000 in
theorem E_M_in : ∀ (pc : Nat) (q : Ent), i_M_in pc = some q → ab_E KT CL ab_gW "StreamTransportModel" "in" (some .boolean) prog_12_method_4_code s_M_in 3 pc q.1 q.2.1 q.2.2.1 q.2.2.2.1 q.2.2.2.2 := fun pc q hq =>
  ab_Eb_ok lc_M lj_M fl_M (fpn_M "in") nw_M na_M nq_M (ab_tab_all (t := t_M_in) (chk := fun pc q => ab_Eb (some .boolean) prog_12_method_4_code s_M_in 3 LC_M LJ_M FL_M FPn_M NW_M NA_M NQ_M pc q.1 q.2.1 q.2.2.1 q.2.2.2.1 q.2.2.2.2) (by decide +kernel) hq)
set_option maxRecDepth 100000 in
theorem kp_M_in {av : List AV} {m : Mm} {r : Int32 × Mm} (h : c_M_in av m = some r) : ab_kp m r.2 := by
  obtain ⟨v0, v1, v2, -, h⟩ := c_M_in_inv h
  rw [r_M_in_eq] at h
  have hV : ∀ a av m m', eV_M_in a av m = some m' → ab_kp m m' := ab_ev_all (P := fun _ m r => ab_kp m r) [] (fun q hq => by cases hq)
  have hI : ∀ a av m q, eI_M_in a av m = some q → ab_kp m q.2 := ab_ev_all (P := fun _ (m : Mm) (r : Int32 × Mm) => ab_kp m r.2) [] (fun q hq => by cases hq)
  exact ab_kprel (ρ := .inl (some (.inl r.1), r.2)) (ab_tab_isn (t := t_M_in) (by decide +kernel)) hV hI (ab_rI_inv h)
set_option maxRecDepth 100000 in
theorem cl_M_in (l : Launch) : ∀ (pc : Nat) (q : Ent), i_M_in pc = some q → ab_inv q.1 = true → ab_CR l KT CL none ab_gW "StreamTransportModel" prog_12_method_4_code 3 0 0 eV_M_in eI_M_in pc q := by
  intro pc q hq hi
  have hm : pc ∈ cs_M_in := ab_tab_cs (t := t_M_in) (by decide +kernel) hq hi
  cases hm
theorem cw_M_in : ab_cw y_M_in prog_12_method_4_code 3 3 (some .boolean) := ⟨ab_gW_in 1156 (by decide +kernel) rfl, ab_gW_in 71 (by decide +kernel) rfl, by decide +kernel, by decide +kernel, by decide +kernel⟩
theorem st_M_in : Cond.static y_M_in ∈ ab_gW := ab_gW_in 1155 (by decide +kernel) rfl
set_option maxRecDepth 100000 in
theorem cm_M_in (l : Launch) {av : List AV} {m : Mm} {r : Int32 × Mm} (h0 : c_M_in av m = some r) : av.length = 3 ∧ ab_nos av ∧ ab_Met l KT CL y_M_in (Cond.code y_M_in prog_12_method_4_code 3 (some .boolean) :: ab_gW) 0 0 none av m (some (.inl r.1)) r.2 := by
  obtain ⟨v0, v1, v2, hav, h⟩ := c_M_in_inv h0
  rw [r_M_in_eq] at h
  have hmo : ab_mo m r.2 := ab_kp_mo (kp_M_in h0)
  subst hav
  exact ⟨rfl, (by intro v hv q e; subst e; simp at hv), ab_met (by decide +kernel) KT_0 KT_nd KT_k3 E_M_in (cl_M_in l) hmo (Nat.le_of_ble_eq_true rfl) (ab_rI_inv h) (fun v hv => by cases hv; exact ⟨_, rfl⟩)⟩
/-! StreamTransportModel.isStream(II)Z -/
def y_M_isStream : MethodName := ⟨"StreamTransportModel", "isStream", "(II)Z"⟩
def t_M_isStream (pc : Nat) : Option Ent :=
  bif Nat.blt pc 11 then
    (bif Nat.blt pc 3 then
      (bif Nat.blt pc 1 then
        (bif Nat.beq pc 0 then some (.iload_n 0, 0, 0, 0, 0) else none)
      else
        bif Nat.blt pc 2 then
          (bif Nat.beq pc 1 then some (.iconst 0, 0, 0, 0, 0) else none)
        else
          bif Nat.beq pc 2 then some (.iconst 1, 0, 0, 0, 1) else none)
    else
      bif Nat.blt pc 9 then
        (bif Nat.blt pc 6 then
          (bif Nat.beq pc 3 then some (.invokestatic 138, 104, 3, 1, 0) else none)
        else
          bif Nat.beq pc 6 then some (.ifCond .eq (16), 22, 0, 0, 0) else none)
      else
        bif Nat.blt pc 10 then
          (bif Nat.beq pc 9 then some (.iload_n 1, 1, 0, 0, 0) else none)
        else
          bif Nat.beq pc 10 then some (.iconst 0, 0, 0, 0, 0) else none)
  else
    bif Nat.blt pc 18 then
      (bif Nat.blt pc 12 then
        (bif Nat.beq pc 11 then some (.iconst 3, 0, 0, 0, 3) else none)
      else
        bif Nat.blt pc 15 then
          (bif Nat.beq pc 12 then some (.invokestatic 138, 104, 3, 1, 0) else none)
        else
          bif Nat.beq pc 15 then some (.ifCond .eq (7), 22, 0, 0, 0) else none)
    else
      bif Nat.blt pc 22 then
        (bif Nat.blt pc 19 then
          (bif Nat.beq pc 18 then some (.iconst 1, 0, 0, 0, 1) else none)
        else
          bif Nat.beq pc 19 then some (.goto 4, 23, 0, 0, 0) else none)
      else
        bif Nat.blt pc 23 then
          (bif Nat.beq pc 22 then some (.iconst 0, 0, 0, 0, 0) else none)
        else
          bif Nat.beq pc 23 then some (.ireturn, 0, 0, 1, 0) else none
def i_M_isStream : Nat → Option Ent := ab_tab 24 t_M_isStream
def h_M_isStream (pc : Nat) : Nat × List Bool := (0, [])
def s_M_isStream (pc : Nat) : List (Int32 × Nat) × Nat := ([], 0)
noncomputable def eV_M_isStream : Nat → List AV → Mm → Option Mm := ab_ev []
noncomputable def eI_M_isStream : Nat → List AV → Mm → Option (Int32 × Mm) := ab_ev [(104, c_M_in)]
noncomputable def b_M_isStream_0 (f : Nat) (v0 : Int32) (v1 : Int32) (m : Mm) : Option Rs := ab_ex KT none s_M_isStream eV_M_isStream eI_M_isStream i_M_isStream h_M_isStream f 0 [some (.inl v0), some (.inl v1)] [] m
set_option maxRecDepth 100000 in
set_option maxHeartbeats 4000000 in
theorem b_M_isStream_0_eq (f : Nat) (v0 : Int32) (v1 : Int32) (m : Mm) : b_M_isStream_0 (f + 1) v0 v1 m =
    (r_M_in v0 (0 : Int32) (1 : Int32) m).bind fun z1 =>
    if z1.1 = 0 then
      (ab_bo (0 : Int32)).bind fun y2 => some (.inl (some (.inl y2), z1.2))
    else
      (r_M_in v1 (0 : Int32) (3 : Int32) z1.2).bind fun z3 =>
      if z3.1 = 0 then
        (ab_bo (0 : Int32)).bind fun y4 => some (.inl (some (.inl y4), z3.2))
      else
        (ab_bo (1 : Int32)).bind fun y5 => some (.inl (some (.inl y5), z3.2)) := rfl
noncomputable def r_M_isStream : Int32 → Int32 → Mm → Option (Int32 × Mm) := ab_seal fun v0 v1 m => ab_rI (b_M_isStream_0 50000 v0 v1 m)
theorem r_M_isStream_eq (v0 : Int32) (v1 : Int32) (m : Mm) : r_M_isStream v0 v1 m = ab_rI (b_M_isStream_0 50000 v0 v1 m) := by
  unfold r_M_isStream
  rw [ab_seal_eq]
noncomputable def c_M_isStream : List AV → Mm → Option (Int32 × Mm) := fun av m => match av with
  | [.inl v0, .inl v1] => r_M_isStream v0 v1 m
  | _ => none
theorem c_M_isStream_inv {av : List AV} {m : Mm} {r : Int32 × Mm} (h : c_M_isStream av m = some r) : ∃ (v0 : Int32) (v1 : Int32), av = [.inl v0, .inl v1] ∧ r_M_isStream v0 v1 m = some r := by
  unfold c_M_isStream at h
  split at h
  · rename_i v0 v1
    exact ⟨v0, v1, rfl, h⟩
  · cases h
def cs_M_isStream : List Nat := [3, 12]
set_option maxRecDepth 100000 in
theorem E_M_isStream : ∀ (pc : Nat) (q : Ent), i_M_isStream pc = some q → ab_E KT CL ab_gW "StreamTransportModel" "isStream" (some .boolean) prog_12_method_5_code s_M_isStream 2 pc q.1 q.2.1 q.2.2.1 q.2.2.2.1 q.2.2.2.2 := fun pc q hq =>
  ab_Eb_ok lc_M lj_M fl_M (fpn_M "isStream") nw_M na_M nq_M (ab_tab_all (t := t_M_isStream) (chk := fun pc q => ab_Eb (some .boolean) prog_12_method_5_code s_M_isStream 2 LC_M LJ_M FL_M FPn_M NW_M NA_M NQ_M pc q.1 q.2.1 q.2.2.1 q.2.2.2.1 q.2.2.2.2) (by decide +kernel) hq)
set_option maxRecDepth 100000 in
theorem kp_M_isStream {av : List AV} {m : Mm} {r : Int32 × Mm} (h : c_M_isStream av m = some r) : ab_kp m r.2 := by
  obtain ⟨v0, v1, -, h⟩ := c_M_isStream_inv h
  rw [r_M_isStream_eq] at h
  have hV : ∀ a av m m', eV_M_isStream a av m = some m' → ab_kp m m' := ab_ev_all (P := fun _ m r => ab_kp m r) [] (fun q hq => by cases hq)
  have hI : ∀ a av m q, eI_M_isStream a av m = some q → ab_kp m q.2 := ab_ev_all (P := fun _ (m : Mm) (r : Int32 × Mm) => ab_kp m r.2) [(104, c_M_in)] (List.forall_mem_cons.mpr ⟨fun av m r h => kp_M_in h, fun q hq => by cases hq⟩)
  exact ab_kprel (ρ := .inl (some (.inl r.1), r.2)) (ab_tab_isn (t := t_M_isStream) (by decide +kernel)) hV hI (ab_rI_inv h)
set_option maxRecDepth 100000 in
theorem cl_M_isStream (l : Launch) : ∀ (pc : Nat) (q : Ent), i_M_isStream pc = some q → ab_inv q.1 = true → ab_CR l KT CL none ab_gW "StreamTransportModel" prog_12_method_5_code 2 1 22 eV_M_isStream eI_M_isStream pc q := by
  intro pc q hq hi
  have hm : pc ∈ cs_M_isStream := ab_tab_cs (t := t_M_isStream) (by decide +kernel) hq hi
  simp only [cs_M_isStream, List.mem_cons, List.not_mem_nil, or_false] at hm
  rcases hm with rfl | rfl
  · cases (Option.some.inj hq : ((.invokestatic 138, 104, 3, 1, 0) : Ent) = q)
    exact ab_crS (by decide +kernel) cw_M_in (ab_gW_in 1154 (by decide +kernel) rfl) st_M_in (by decide) (fun av m m' h => by cases h) (fun av m r h => cm_M_in l h) KT_nd
  · cases (Option.some.inj hq : ((.invokestatic 138, 104, 3, 1, 0) : Ent) = q)
    exact ab_crS (by decide +kernel) cw_M_in (ab_gW_in 1154 (by decide +kernel) rfl) st_M_in (by decide) (fun av m m' h => by cases h) (fun av m r h => cm_M_in l h) KT_nd
theorem cw_M_isStream : ab_cw y_M_isStream prog_12_method_5_code 2 2 (some .boolean) := ⟨ab_gW_in 1153 (by decide +kernel) rfl, ab_gW_in 71 (by decide +kernel) rfl, by decide +kernel, by decide +kernel, by decide +kernel⟩
theorem st_M_isStream : Cond.static y_M_isStream ∈ ab_gW := ab_gW_in 1152 (by decide +kernel) rfl
set_option maxRecDepth 100000 in
theorem cm_M_isStream (l : Launch) {av : List AV} {m : Mm} {r : Int32 × Mm} (h0 : c_M_isStream av m = some r) : av.length = 2 ∧ ab_nos av ∧ ab_Met l KT CL y_M_isStream (Cond.code y_M_isStream prog_12_method_5_code 2 (some .boolean) :: ab_gW) 1 22 none av m (some (.inl r.1)) r.2 := by
  obtain ⟨v0, v1, hav, h⟩ := c_M_isStream_inv h0
  rw [r_M_isStream_eq] at h
  have hmo : ab_mo m r.2 := ab_kp_mo (kp_M_isStream h0)
  subst hav
  exact ⟨rfl, (by intro v hv q e; subst e; simp at hv), ab_met (by decide +kernel) KT_0 KT_nd KT_k3 E_M_isStream (cl_M_isStream l) hmo (Nat.le_of_ble_eq_true rfl) (ab_rI_inv h) (fun v hv => by cases hv; exact ⟨_, rfl⟩)⟩
/-! StreamTransportModel.streamTarget(I)I -/
def y_M_streamTarget : MethodName := ⟨"StreamTransportModel", "streamTarget", "(I)I"⟩
def t_M_streamTarget (pc : Nat) : Option Ent :=
  bif Nat.blt pc 16 then
    (bif Nat.blt pc 6 then
      (bif Nat.blt pc 4 then
        (bif Nat.blt pc 1 then
          (bif Nat.beq pc 0 then some (.aload_n 0, 0, 0, 0, 0) else none)
        else
          bif Nat.beq pc 1 then some (.getfield 47, 10, 16, 1, 0) else none)
      else
        bif Nat.blt pc 5 then
          (bif Nat.beq pc 4 then some (.iload_n 1, 1, 0, 0, 0) else none)
        else
          bif Nat.beq pc 5 then some (.iaload, 0, 0, 0, 0) else none)
    else
      bif Nat.blt pc 10 then
        (bif Nat.blt pc 7 then
          (bif Nat.beq pc 6 then some (.aload_n 0, 0, 0, 0, 0) else none)
        else
          bif Nat.beq pc 7 then some (.getfield 128, 10, 0, 0, 0) else none)
      else
        bif Nat.blt pc 11 then
          (bif Nat.beq pc 10 then some (.iadd, 0, 0, 0, 0) else none)
        else
          bif Nat.blt pc 13 then
            (bif Nat.beq pc 11 then some (.bipush 64, 0, 0, 0, 64) else none)
          else
            bif Nat.beq pc 13 then some (.if_icmp .ge (17), 30, 0, 0, 0) else none)
  else
    bif Nat.blt pc 23 then
      (bif Nat.blt pc 20 then
        (bif Nat.blt pc 17 then
          (bif Nat.beq pc 16 then some (.aload_n 0, 0, 0, 0, 0) else none)
        else
          bif Nat.beq pc 17 then some (.getfield 47, 10, 16, 1, 0) else none)
      else
        bif Nat.blt pc 21 then
          (bif Nat.beq pc 20 then some (.iload_n 1, 1, 0, 0, 0) else none)
        else
          bif Nat.blt pc 22 then
            (bif Nat.beq pc 21 then some (.iaload, 0, 0, 0, 0) else none)
          else
            bif Nat.beq pc 22 then some (.aload_n 0, 0, 0, 0, 0) else none)
    else
      bif Nat.blt pc 27 then
        (bif Nat.blt pc 26 then
          (bif Nat.beq pc 23 then some (.getfield 128, 10, 0, 0, 0) else none)
        else
          bif Nat.beq pc 26 then some (.iadd, 0, 0, 0, 0) else none)
      else
        bif Nat.blt pc 30 then
          (bif Nat.beq pc 27 then some (.goto 5, 32, 0, 0, 0) else none)
        else
          bif Nat.blt pc 32 then
            (bif Nat.beq pc 30 then some (.bipush 64, 0, 0, 0, 64) else none)
          else
            bif Nat.beq pc 32 then some (.ireturn, 0, 0, 0, 0) else none
def i_M_streamTarget : Nat → Option Ent := ab_tab 33 t_M_streamTarget
def h_M_streamTarget (pc : Nat) : Nat × List Bool := (0, [])
def s_M_streamTarget (pc : Nat) : List (Int32 × Nat) × Nat := ([], 0)
noncomputable def eV_M_streamTarget : Nat → List AV → Mm → Option Mm := ab_ev []
noncomputable def eI_M_streamTarget : Nat → List AV → Mm → Option (Int32 × Mm) := ab_ev []
noncomputable def b_M_streamTarget_0 (f : Nat) (v0 : Nat) (v1 : Int32) (m : Mm) : Option Rs := ab_ex KT none s_M_streamTarget eV_M_streamTarget eI_M_streamTarget i_M_streamTarget h_M_streamTarget f 0 [some (.inr (.inr (28, some v0))), some (.inl v1)] [] m
set_option maxRecDepth 100000 in
set_option maxHeartbeats 4000000 in
theorem b_M_streamTarget_0_eq (f : Nat) (v0 : Nat) (v1 : Int32) (m : Mm) : b_M_streamTarget_0 (f + 1) v0 v1 m =
    (ab_ix v1 8).bind fun i1 =>
    if (64 : Int32) ≤ ((m.1 145 (v0 + 13) i1) + (m.1 81 v0 0)) then
      some (.inl (some (.inl (64 : Int32)), m))
    else
      (ab_ix v1 8).bind fun i2 =>
      some (.inl (some (.inl ((m.1 145 (v0 + 13) i2) + (m.1 81 v0 0))), m)) := rfl
noncomputable def r_M_streamTarget : Nat → Int32 → Mm → Option (Int32 × Mm) := ab_seal fun v0 v1 m => ab_rI (b_M_streamTarget_0 50000 v0 v1 m)
theorem r_M_streamTarget_eq (v0 : Nat) (v1 : Int32) (m : Mm) : r_M_streamTarget v0 v1 m = ab_rI (b_M_streamTarget_0 50000 v0 v1 m) := by
  unfold r_M_streamTarget
  rw [ab_seal_eq]
noncomputable def c_M_streamTarget : List AV → Mm → Option (Int32 × Mm) := fun av m => match av with
  | [.inr (.inr (kv0, ov0)), .inl v1] => if kv0 = 28 then (ov0.bind fun v0 => r_M_streamTarget v0 v1 m) else none
  | _ => none
theorem c_M_streamTarget_inv {av : List AV} {m : Mm} {r : Int32 × Mm} (h : c_M_streamTarget av m = some r) : ∃ (v0 : Nat) (v1 : Int32), av = [.inr (.inr (28, some v0)), .inl v1] ∧ r_M_streamTarget v0 v1 m = some r := by
  unfold c_M_streamTarget at h
  split at h
  · rename_i kv0 ov0 v1
    by_cases hkv0 : kv0 = 28
    case neg => rw [if_neg hkv0] at h; cases h
    rw [if_pos hkv0] at h
    subst hkv0
    obtain ⟨v0, hev0, h⟩ := Option.bind_eq_some_iff.mp h
    subst hev0
    exact ⟨v0, v1, rfl, h⟩
  · cases h
def cs_M_streamTarget : List Nat := []
set_option maxRecDepth 100000 in
theorem E_M_streamTarget : ∀ (pc : Nat) (q : Ent), i_M_streamTarget pc = some q → ab_E KT CL ab_gW "StreamTransportModel" "streamTarget" (some .int) prog_12_method_10_code s_M_streamTarget 2 pc q.1 q.2.1 q.2.2.1 q.2.2.2.1 q.2.2.2.2 := fun pc q hq =>
  ab_Eb_ok lc_M lj_M fl_M (fpn_M "streamTarget") nw_M na_M nq_M (ab_tab_all (t := t_M_streamTarget) (chk := fun pc q => ab_Eb (some .int) prog_12_method_10_code s_M_streamTarget 2 LC_M LJ_M FL_M FPn_M NW_M NA_M NQ_M pc q.1 q.2.1 q.2.2.1 q.2.2.2.1 q.2.2.2.2) (by decide +kernel) hq)
set_option maxRecDepth 100000 in
theorem kp_M_streamTarget {av : List AV} {m : Mm} {r : Int32 × Mm} (h : c_M_streamTarget av m = some r) : ab_kp m r.2 := by
  obtain ⟨v0, v1, -, h⟩ := c_M_streamTarget_inv h
  rw [r_M_streamTarget_eq] at h
  have hV : ∀ a av m m', eV_M_streamTarget a av m = some m' → ab_kp m m' := ab_ev_all (P := fun _ m r => ab_kp m r) [] (fun q hq => by cases hq)
  have hI : ∀ a av m q, eI_M_streamTarget a av m = some q → ab_kp m q.2 := ab_ev_all (P := fun _ (m : Mm) (r : Int32 × Mm) => ab_kp m r.2) [] (fun q hq => by cases hq)
  exact ab_kprel (ρ := .inl (some (.inl r.1), r.2)) (ab_tab_isn (t := t_M_streamTarget) (by decide +kernel)) hV hI (ab_rI_inv h)
set_option maxRecDepth 100000 in
theorem cl_M_streamTarget (l : Launch) : ∀ (pc : Nat) (q : Ent), i_M_streamTarget pc = some q → ab_inv q.1 = true → ab_CR l KT CL none ab_gW "StreamTransportModel" prog_12_method_10_code 2 0 0 eV_M_streamTarget eI_M_streamTarget pc q := by
  intro pc q hq hi
  have hm : pc ∈ cs_M_streamTarget := ab_tab_cs (t := t_M_streamTarget) (by decide +kernel) hq hi
  cases hm
theorem cw_M_streamTarget : ab_cw y_M_streamTarget prog_12_method_10_code 2 1 (some .int) := ⟨ab_gW_in 1177 (by decide +kernel) rfl, ab_gW_in 71 (by decide +kernel) rfl, by decide +kernel, by decide +kernel, by decide +kernel⟩
theorem is_M_streamTarget : Cond.instanceMethod y_M_streamTarget ∈ ab_gW := ab_gW_in 1176 (by decide +kernel) rfl
theorem sl_M_streamTarget : Cond.selects "StreamTransportModel" y_M_streamTarget y_M_streamTarget ∈ ab_gW := ab_gW_in 32 (by decide +kernel) rfl
set_option maxRecDepth 100000 in
theorem cm_M_streamTarget (l : Launch) {av : List AV} {m : Mm} {r : Int32 × Mm} (h0 : c_M_streamTarget av m = some r) : ∃ (k q : Nat) (av' : List AV) (ci : Nat) (fs : List (Nat × Nat × Nat × Nat)) (z : vw_C), av = .inr (.inr (k, some q)) :: av' ∧ av'.length = 1 ∧ k ≠ 0 ∧ KT[k]? = some (.inl (ci, fs)) ∧ CL[ci]? = some z ∧ z.1 = "StreamTransportModel" ∧ ab_nos av' ∧ ab_Met l KT CL y_M_streamTarget (Cond.code y_M_streamTarget prog_12_method_10_code 2 (some .int) :: ab_gW) 0 0 none av m (some (.inl r.1)) r.2 := by
  obtain ⟨v0, v1, hav, h⟩ := c_M_streamTarget_inv h0
  rw [r_M_streamTarget_eq] at h
  have hmo : ab_mo m r.2 := ab_kp_mo (kp_M_streamTarget h0)
  subst hav
  exact ⟨_, _, _, _, _, _, rfl, rfl, by decide, rfl, rfl, rfl, (by intro v hv q e; subst e; simp at hv), ab_met (by decide +kernel) KT_0 KT_nd KT_k3 E_M_streamTarget (cl_M_streamTarget l) hmo (Nat.le_of_ble_eq_true rfl) (ab_rI_inv h) (fun v hv => by cases hv; exact ⟨_, rfl⟩)⟩
/-! StreamTransportModel.allTarget(I)I -/
def y_M_allTarget : MethodName := ⟨"StreamTransportModel", "allTarget", "(I)I"⟩
def t_M_allTarget (pc : Nat) : Option Ent :=
  bif Nat.blt pc 28 then
    (bif Nat.blt pc 12 then
      (bif Nat.blt pc 7 then
        (bif Nat.blt pc 4 then
          (bif Nat.blt pc 1 then
            (bif Nat.beq pc 0 then some (.aload_n 0, 0, 0, 0, 0) else none)
          else
            bif Nat.beq pc 1 then some (.getfield 132, 10, 1, 0, 0) else none)
        else
          bif Nat.blt pc 5 then
            (bif Nat.beq pc 4 then some (.istore_n 2, 2, 0, 0, 0) else none)
          else
            bif Nat.blt pc 6 then
              (bif Nat.beq pc 5 then some (.iconst 4, 0, 0, 0, 4) else none)
            else
              bif Nat.beq pc 6 then some (.iload_n 1, 1, 0, 0, 0) else none)
      else
        bif Nat.blt pc 9 then
          (bif Nat.blt pc 8 then
            (bif Nat.beq pc 7 then some (.imul, 0, 0, 0, 0) else none)
          else
            bif Nat.beq pc 8 then some (.istore_n 3, 3, 0, 0, 0) else none)
        else
          bif Nat.blt pc 10 then
            (bif Nat.beq pc 9 then some (.iload_n 3, 3, 0, 0, 0) else none)
          else
            bif Nat.blt pc 11 then
              (bif Nat.beq pc 10 then some (.iconst 4, 0, 0, 0, 4) else none)
            else
              bif Nat.beq pc 11 then some (.iload_n 1, 1, 0, 0, 0) else none)
    else
      bif Nat.blt pc 19 then
        (bif Nat.blt pc 14 then
          (bif Nat.blt pc 13 then
            (bif Nat.beq pc 12 then some (.imul, 0, 0, 0, 0) else none)
          else
            bif Nat.beq pc 13 then some (.iconst 4, 0, 0, 0, 4) else none)
        else
          bif Nat.blt pc 15 then
            (bif Nat.beq pc 14 then some (.iadd, 0, 0, 0, 0) else none)
          else
            bif Nat.blt pc 18 then
              (bif Nat.beq pc 15 then some (.if_icmp .ge (36), 51, 0, 0, 0) else none)
            else
              bif Nat.beq pc 18 then some (.iload_n 2, 2, 0, 0, 0) else none)
      else
        bif Nat.blt pc 23 then
          (bif Nat.blt pc 20 then
            (bif Nat.beq pc 19 then some (.aload_n 0, 0, 0, 0, 0) else none)
          else
            bif Nat.beq pc 20 then some (.getfield 53, 10, 18, 1, 0) else none)
        else
          bif Nat.blt pc 24 then
            (bif Nat.beq pc 23 then some (.iload_n 3, 3, 0, 0, 0) else none)
          else
            bif Nat.blt pc 25 then
              (bif Nat.beq pc 24 then some (.baload, 0, 0, 0, 0) else none)
            else
              bif Nat.beq pc 25 then some (.ifCond .eq (12), 37, 0, 0, 0) else none)
  else
    bif Nat.blt pc 44 then
      (bif Nat.blt pc 37 then
        (bif Nat.blt pc 32 then
          (bif Nat.blt pc 29 then
            (bif Nat.beq pc 28 then some (.aload_n 0, 0, 0, 0, 0) else none)
          else
            bif Nat.beq pc 29 then some (.getfield 44, 10, 15, 1, 0) else none)
        else
          bif Nat.blt pc 33 then
            (bif Nat.beq pc 32 then some (.iload_n 3, 3, 0, 0, 0) else none)
          else
            bif Nat.blt pc 34 then
              (bif Nat.beq pc 33 then some (.iaload, 0, 0, 0, 0) else none)
            else
              bif Nat.beq pc 34 then some (.goto 9, 43, 0, 0, 0) else none)
      else
        bif Nat.blt pc 41 then
          (bif Nat.blt pc 38 then
            (bif Nat.beq pc 37 then some (.aload_n 0, 0, 0, 0, 0) else none)
          else
            bif Nat.beq pc 38 then some (.getfield 47, 10, 16, 1, 0) else none)
        else
          bif Nat.blt pc 42 then
            (bif Nat.beq pc 41 then some (.iload_n 3, 3, 0, 0, 0) else none)
          else
            bif Nat.blt pc 43 then
              (bif Nat.beq pc 42 then some (.iaload, 0, 0, 0, 0) else none)
            else
              bif Nat.beq pc 43 then some (.iadd, 0, 0, 0, 0) else none)
    else
      bif Nat.blt pc 55 then
        (bif Nat.blt pc 48 then
          (bif Nat.blt pc 45 then
            (bif Nat.beq pc 44 then some (.istore_n 2, 2, 0, 0, 0) else none)
          else
            bif Nat.beq pc 45 then some (.iinc 3 1, 3, 0, 0, 1) else none)
        else
          bif Nat.blt pc 51 then
            (bif Nat.beq pc 48 then some (.goto (-39), 9, 0, 0, 0) else none)
          else
            bif Nat.blt pc 52 then
              (bif Nat.beq pc 51 then some (.iload_n 2, 2, 0, 0, 0) else none)
            else
              bif Nat.beq pc 52 then some (.sipush 256, 0, 0, 0, 256) else none)
      else
        bif Nat.blt pc 59 then
          (bif Nat.blt pc 58 then
            (bif Nat.beq pc 55 then some (.if_icmp .ge (7), 62, 0, 0, 0) else none)
          else
            bif Nat.beq pc 58 then some (.iload_n 2, 2, 0, 0, 0) else none)
        else
          bif Nat.blt pc 62 then
            (bif Nat.beq pc 59 then some (.goto 6, 65, 0, 0, 0) else none)
          else
            bif Nat.blt pc 65 then
              (bif Nat.beq pc 62 then some (.sipush 256, 0, 0, 0, 256) else none)
            else
              bif Nat.beq pc 65 then some (.ireturn, 0, 0, 0, 0) else none
def i_M_allTarget : Nat → Option Ent := ab_tab 66 t_M_allTarget
def h_M_allTarget (pc : Nat) : Nat × List Bool := bif Nat.beq pc 9 then (1, [true, true, true, true]) else bif Nat.beq pc 43 then (1, [true, true, false, true]) else (0, [])
def s_M_allTarget (pc : Nat) : List (Int32 × Nat) × Nat := ([], 0)
noncomputable def eV_M_allTarget : Nat → List AV → Mm → Option Mm := ab_ev []
noncomputable def eI_M_allTarget : Nat → List AV → Mm → Option (Int32 × Mm) := ab_ev []
noncomputable def b_M_allTarget_0 (f : Nat) (v0 : Nat) (v1 : Int32) (m : Mm) : Option Rs := ab_ex KT none s_M_allTarget eV_M_allTarget eI_M_allTarget i_M_allTarget h_M_allTarget f 0 [some (.inr (.inr (28, some v0))), some (.inl v1), none, none] [] m
noncomputable def b_M_allTarget_9 (f : Nat) (v0 : Nat) (v1 : Int32) (v2 : Int32) (v3 : Int32) (m : Mm) : Option Rs := ab_ex KT none s_M_allTarget eV_M_allTarget eI_M_allTarget i_M_allTarget h_M_allTarget f 9 [some (.inr (.inr (28, some v0))), some (.inl v1), some (.inl v2), some (.inl v3)] [] m
noncomputable def b_M_allTarget_43 (f : Nat) (v0 : Nat) (v1 : Int32) (v3 : Int32) (u0 : Int32) (u1 : Int32) (m : Mm) : Option Rs := ab_ex KT none s_M_allTarget eV_M_allTarget eI_M_allTarget i_M_allTarget h_M_allTarget f 43 [some (.inr (.inr (28, some v0))), some (.inl v1), none, some (.inl v3)] [.inl u1, .inl u0] m
set_option maxRecDepth 100000 in
set_option maxHeartbeats 4000000 in
theorem b_M_allTarget_0_eq (f : Nat) (v0 : Nat) (v1 : Int32) (m : Mm) : b_M_allTarget_0 (f + 1) v0 v1 m =
    ab_let ((m.1 82 v0 0)) fun x1 =>
    ab_let (((4 : Int32) * v1)) fun x2 =>
    b_M_allTarget_9 f v0 v1 x1 x2 m := rfl
set_option maxRecDepth 100000 in
set_option maxHeartbeats 4000000 in
theorem b_M_allTarget_9_eq (f : Nat) (v0 : Nat) (v1 : Int32) (v2 : Int32) (v3 : Int32) (m : Mm) : b_M_allTarget_9 (f + 1) v0 v1 v2 v3 m =
    if (((4 : Int32) * v1) + (4 : Int32)) ≤ v3 then
      if (256 : Int32) ≤ v2 then
        some (.inl (some (.inl (256 : Int32)), m))
      else
        some (.inl (some (.inl v2), m))
    else
      (ab_ix v3 8).bind fun i1 =>
      if (m.1 147 (v0 + 15) i1) = 0 then
        (ab_ix v3 8).bind fun i2 =>
        b_M_allTarget_43 f v0 v1 v3 v2 (m.1 145 (v0 + 13) i2) m
      else
        (ab_ix v3 8).bind fun i3 =>
        b_M_allTarget_43 f v0 v1 v3 v2 (m.1 144 (v0 + 12) i3) m := rfl
set_option maxRecDepth 100000 in
set_option maxHeartbeats 4000000 in
theorem b_M_allTarget_43_eq (f : Nat) (v0 : Nat) (v1 : Int32) (v3 : Int32) (u0 : Int32) (u1 : Int32) (m : Mm) : b_M_allTarget_43 (f + 1) v0 v1 v3 u0 u1 m =
    ab_let ((u0 + u1)) fun x1 =>
    ab_let (v3 + (1 : Int32)) fun x2 =>
    b_M_allTarget_9 f v0 v1 x1 x2 m := rfl
noncomputable def r_M_allTarget : Nat → Int32 → Mm → Option (Int32 × Mm) := ab_seal fun v0 v1 m => ab_rI (b_M_allTarget_0 50000 v0 v1 m)
theorem r_M_allTarget_eq (v0 : Nat) (v1 : Int32) (m : Mm) : r_M_allTarget v0 v1 m = ab_rI (b_M_allTarget_0 50000 v0 v1 m) := by
  unfold r_M_allTarget
  rw [ab_seal_eq]
noncomputable def c_M_allTarget : List AV → Mm → Option (Int32 × Mm) := fun av m => match av with
  | [.inr (.inr (kv0, ov0)), .inl v1] => if kv0 = 28 then (ov0.bind fun v0 => r_M_allTarget v0 v1 m) else none
  | _ => none
theorem c_M_allTarget_inv {av : List AV} {m : Mm} {r : Int32 × Mm} (h : c_M_allTarget av m = some r) : ∃ (v0 : Nat) (v1 : Int32), av = [.inr (.inr (28, some v0)), .inl v1] ∧ r_M_allTarget v0 v1 m = some r := by
  unfold c_M_allTarget at h
  split at h
  · rename_i kv0 ov0 v1
    by_cases hkv0 : kv0 = 28
    case neg => rw [if_neg hkv0] at h; cases h
    rw [if_pos hkv0] at h
    subst hkv0
    obtain ⟨v0, hev0, h⟩ := Option.bind_eq_some_iff.mp h
    subst hev0
    exact ⟨v0, v1, rfl, h⟩
  · cases h
def cs_M_allTarget : List Nat := []
set_option maxRecDepth 100000 in
theorem E_M_allTarget : ∀ (pc : Nat) (q : Ent), i_M_allTarget pc = some q → ab_E KT CL ab_gW "StreamTransportModel" "allTarget" (some .int) prog_12_method_11_code s_M_allTarget 4 pc q.1 q.2.1 q.2.2.1 q.2.2.2.1 q.2.2.2.2 := fun pc q hq =>
  ab_Eb_ok lc_M lj_M fl_M (fpn_M "allTarget") nw_M na_M nq_M (ab_tab_all (t := t_M_allTarget) (chk := fun pc q => ab_Eb (some .int) prog_12_method_11_code s_M_allTarget 4 LC_M LJ_M FL_M FPn_M NW_M NA_M NQ_M pc q.1 q.2.1 q.2.2.1 q.2.2.2.1 q.2.2.2.2) (by decide +kernel) hq)
set_option maxRecDepth 100000 in
theorem kp_M_allTarget {av : List AV} {m : Mm} {r : Int32 × Mm} (h : c_M_allTarget av m = some r) : ab_kp m r.2 := by
  obtain ⟨v0, v1, -, h⟩ := c_M_allTarget_inv h
  rw [r_M_allTarget_eq] at h
  have hV : ∀ a av m m', eV_M_allTarget a av m = some m' → ab_kp m m' := ab_ev_all (P := fun _ m r => ab_kp m r) [] (fun q hq => by cases hq)
  have hI : ∀ a av m q, eI_M_allTarget a av m = some q → ab_kp m q.2 := ab_ev_all (P := fun _ (m : Mm) (r : Int32 × Mm) => ab_kp m r.2) [] (fun q hq => by cases hq)
  exact ab_kprel (ρ := .inl (some (.inl r.1), r.2)) (ab_tab_isn (t := t_M_allTarget) (by decide +kernel)) hV hI (ab_rI_inv h)
set_option maxRecDepth 100000 in
theorem cl_M_allTarget (l : Launch) : ∀ (pc : Nat) (q : Ent), i_M_allTarget pc = some q → ab_inv q.1 = true → ab_CR l KT CL none ab_gW "StreamTransportModel" prog_12_method_11_code 4 0 0 eV_M_allTarget eI_M_allTarget pc q := by
  intro pc q hq hi
  have hm : pc ∈ cs_M_allTarget := ab_tab_cs (t := t_M_allTarget) (by decide +kernel) hq hi
  cases hm
theorem cw_M_allTarget : ab_cw y_M_allTarget prog_12_method_11_code 4 1 (some .int) := ⟨ab_gW_in 1185 (by decide +kernel) rfl, ab_gW_in 71 (by decide +kernel) rfl, by decide +kernel, by decide +kernel, by decide +kernel⟩
theorem is_M_allTarget : Cond.instanceMethod y_M_allTarget ∈ ab_gW := ab_gW_in 1184 (by decide +kernel) rfl
theorem sl_M_allTarget : Cond.selects "StreamTransportModel" y_M_allTarget y_M_allTarget ∈ ab_gW := ab_gW_in 34 (by decide +kernel) rfl
set_option maxRecDepth 100000 in
theorem cm_M_allTarget (l : Launch) {av : List AV} {m : Mm} {r : Int32 × Mm} (h0 : c_M_allTarget av m = some r) : ∃ (k q : Nat) (av' : List AV) (ci : Nat) (fs : List (Nat × Nat × Nat × Nat)) (z : vw_C), av = .inr (.inr (k, some q)) :: av' ∧ av'.length = 1 ∧ k ≠ 0 ∧ KT[k]? = some (.inl (ci, fs)) ∧ CL[ci]? = some z ∧ z.1 = "StreamTransportModel" ∧ ab_nos av' ∧ ab_Met l KT CL y_M_allTarget (Cond.code y_M_allTarget prog_12_method_11_code 4 (some .int) :: ab_gW) 0 0 none av m (some (.inl r.1)) r.2 := by
  obtain ⟨v0, v1, hav, h⟩ := c_M_allTarget_inv h0
  rw [r_M_allTarget_eq] at h
  have hmo : ab_mo m r.2 := ab_kp_mo (kp_M_allTarget h0)
  subst hav
  exact ⟨_, _, _, _, _, _, rfl, rfl, by decide, rfl, rfl, rfl, (by intro v hv q e; subst e; simp at hv), ab_met (by decide +kernel) KT_0 KT_nd KT_k3 E_M_allTarget (cl_M_allTarget l) hmo (Nat.le_of_ble_eq_true rfl) (ab_rI_inv h) (fun v hv => by cases hv; exact ⟨_, rfl⟩)⟩
/-! StreamTransportModel.lookAll(I)V -/
def y_M_lookAll : MethodName := ⟨"StreamTransportModel", "lookAll", "(I)V"⟩
def t_M_lookAll (pc : Nat) : Option Ent :=
  bif Nat.blt pc 30 then
    (bif Nat.blt pc 15 then
      (bif Nat.blt pc 6 then
        (bif Nat.blt pc 2 then
          (bif Nat.blt pc 1 then
            (bif Nat.beq pc 0 then some (.aload_n 0, 0, 0, 0, 0) else none)
          else
            bif Nat.beq pc 1 then some (.iload_n 1, 1, 0, 0, 0) else none)
        else
          bif Nat.blt pc 5 then
            (bif Nat.beq pc 2 then some (.invokevirtual 159, 107, 2, 1, 0) else none)
          else
            bif Nat.beq pc 5 then some (.istore_n 2, 2, 0, 0, 0) else none)
      else
        bif Nat.blt pc 10 then
          (bif Nat.blt pc 7 then
            (bif Nat.beq pc 6 then some (.aload_n 0, 0, 0, 0, 0) else none)
          else
            bif Nat.beq pc 7 then some (.getfield 83, 10, 28, 1, 0) else none)
        else
          bif Nat.blt pc 11 then
            (bif Nat.beq pc 10 then some (.iload_n 1, 1, 0, 0, 0) else none)
          else
            bif Nat.blt pc 12 then
              (bif Nat.beq pc 11 then some (.aload_n 0, 0, 0, 0, 0) else none)
            else
              bif Nat.beq pc 12 then some (.getfield 83, 10, 28, 1, 0) else none)
    else
      bif Nat.blt pc 21 then
        (bif Nat.blt pc 17 then
          (bif Nat.blt pc 16 then
            (bif Nat.beq pc 15 then some (.iload_n 1, 1, 0, 0, 0) else none)
          else
            bif Nat.beq pc 16 then some (.baload, 0, 0, 0, 0) else none)
        else
          bif Nat.blt pc 20 then
            (bif Nat.beq pc 17 then some (.ifCond .ne (37), 54, 0, 0, 0) else none)
          else
            bif Nat.beq pc 20 then some (.iload_n 2, 2, 0, 0, 0) else none)
      else
        bif Nat.blt pc 25 then
          (bif Nat.blt pc 22 then
            (bif Nat.beq pc 21 then some (.aload_n 0, 0, 0, 0, 0) else none)
          else
            bif Nat.beq pc 22 then some (.getfield 62, 10, 21, 1, 0) else none)
        else
          bif Nat.blt pc 26 then
            (bif Nat.beq pc 25 then some (.iload_n 1, 1, 0, 0, 0) else none)
          else
            bif Nat.blt pc 27 then
              (bif Nat.beq pc 26 then some (.iaload, 0, 0, 0, 0) else none)
            else
              bif Nat.beq pc 27 then some (.if_icmp .le (31), 58, 0, 0, 0) else none)
  else
    bif Nat.blt pc 43 then
      (bif Nat.blt pc 36 then
        (bif Nat.blt pc 32 then
          (bif Nat.blt pc 31 then
            (bif Nat.beq pc 30 then some (.iload_n 2, 2, 0, 0, 0) else none)
          else
            bif Nat.beq pc 31 then some (.aload_n 0, 0, 0, 0, 0) else none)
        else
          bif Nat.blt pc 35 then
            (bif Nat.beq pc 32 then some (.getfield 62, 10, 21, 1, 0) else none)
          else
            bif Nat.beq pc 35 then some (.iload_n 1, 1, 0, 0, 0) else none)
      else
        bif Nat.blt pc 38 then
          (bif Nat.blt pc 37 then
            (bif Nat.beq pc 36 then some (.iaload, 0, 0, 0, 0) else none)
          else
            bif Nat.beq pc 37 then some (.isub, 0, 0, 0, 0) else none)
        else
          bif Nat.blt pc 39 then
            (bif Nat.beq pc 38 then some (.aload_n 0, 0, 0, 0, 0) else none)
          else
            bif Nat.blt pc 42 then
              (bif Nat.beq pc 39 then some (.getfield 132, 10, 1, 0, 0) else none)
            else
              bif Nat.beq pc 42 then some (.iconst 2, 0, 0, 0, 2) else none)
    else
      bif Nat.blt pc 54 then
        (bif Nat.blt pc 47 then
          (bif Nat.blt pc 44 then
            (bif Nat.beq pc 43 then some (.idiv, 0, 0, 0, 0) else none)
          else
            bif Nat.beq pc 44 then some (.if_icmp .ge (10), 54, 0, 0, 0) else none)
        else
          bif Nat.blt pc 48 then
            (bif Nat.beq pc 47 then some (.iload_n 2, 2, 0, 0, 0) else none)
          else
            bif Nat.blt pc 51 then
              (bif Nat.beq pc 48 then some (.sipush 256, 0, 0, 0, 256) else none)
            else
              bif Nat.beq pc 51 then some (.if_icmp .ne (7), 58, 0, 0, 0) else none)
      else
        bif Nat.blt pc 58 then
          (bif Nat.blt pc 55 then
            (bif Nat.beq pc 54 then some (.iconst 1, 0, 0, 0, 1) else none)
          else
            bif Nat.beq pc 55 then some (.goto 4, 59, 0, 0, 0) else none)
        else
          bif Nat.blt pc 59 then
            (bif Nat.beq pc 58 then some (.iconst 0, 0, 0, 0, 0) else none)
          else
            bif Nat.blt pc 60 then
              (bif Nat.beq pc 59 then some (.bastore, 0, 0, 0, 0) else none)
            else
              bif Nat.beq pc 60 then some (.return_, 0, 0, 0, 0) else none
def i_M_lookAll : Nat → Option Ent := ab_tab 61 t_M_lookAll
def h_M_lookAll (pc : Nat) : Nat × List Bool := bif Nat.beq pc 54 then (1, [false, false, false]) else bif Nat.beq pc 58 then (1, [false, false, false]) else bif Nat.beq pc 59 then (1, [false, false, false]) else (0, [])
def s_M_lookAll (pc : Nat) : List (Int32 × Nat) × Nat := ([], 0)
noncomputable def eV_M_lookAll : Nat → List AV → Mm → Option Mm := ab_ev []
noncomputable def eI_M_lookAll : Nat → List AV → Mm → Option (Int32 × Mm) := ab_ev [(107, c_M_allTarget)]
noncomputable def b_M_lookAll_0 (f : Nat) (v0 : Nat) (v1 : Int32) (m : Mm) : Option Rs := ab_ex KT none s_M_lookAll eV_M_lookAll eI_M_lookAll i_M_lookAll h_M_lookAll f 0 [some (.inr (.inr (28, some v0))), some (.inl v1), none] [] m
noncomputable def b_M_lookAll_54 (f : Nat) (u0 : Nat) (u1 : Int32) (m : Mm) : Option Rs := ab_ex KT none s_M_lookAll eV_M_lookAll eI_M_lookAll i_M_lookAll h_M_lookAll f 54 [none, none, none] [.inl u1, .inr (.inr (53, some u0))] m
noncomputable def b_M_lookAll_58 (f : Nat) (u0 : Nat) (u1 : Int32) (m : Mm) : Option Rs := ab_ex KT none s_M_lookAll eV_M_lookAll eI_M_lookAll i_M_lookAll h_M_lookAll f 58 [none, none, none] [.inl u1, .inr (.inr (53, some u0))] m
noncomputable def b_M_lookAll_59 (f : Nat) (u0 : Nat) (u1 : Int32) (u2 : Int32) (m : Mm) : Option Rs := ab_ex KT none s_M_lookAll eV_M_lookAll eI_M_lookAll i_M_lookAll h_M_lookAll f 59 [none, none, none] [.inl u2, .inl u1, .inr (.inr (53, some u0))] m
set_option maxRecDepth 100000 in
set_option maxHeartbeats 4000000 in
theorem b_M_lookAll_0_eq (f : Nat) (v0 : Nat) (v1 : Int32) (m : Mm) : b_M_lookAll_0 (f + 1) v0 v1 m =
    (r_M_allTarget v0 v1 m).bind fun z1 =>
    (ab_ix v1 2).bind fun i2 =>
    if (z1.2.1 157 (v0 + 25) i2) = 0 then
      (ab_ix v1 2).bind fun i3 =>
      if z1.1 ≤ (z1.2.1 150 (v0 + 18) i3) then
        b_M_lookAll_58 f (v0 + 25) v1 z1.2
      else
        (ab_ix v1 2).bind fun i4 =>
        if (2 : Int32) = 0 then none else
        if ((z1.2.1 82 v0 0) / (2 : Int32)) ≤ (z1.1 - (z1.2.1 150 (v0 + 18) i4)) then
          b_M_lookAll_54 f (v0 + 25) v1 z1.2
        else
          if z1.1 = (256 : Int32) then
            b_M_lookAll_54 f (v0 + 25) v1 z1.2
          else
            b_M_lookAll_58 f (v0 + 25) v1 z1.2
    else
      b_M_lookAll_54 f (v0 + 25) v1 z1.2 := rfl
set_option maxRecDepth 100000 in
set_option maxHeartbeats 4000000 in
theorem b_M_lookAll_54_eq (f : Nat) (u0 : Nat) (u1 : Int32) (m : Mm) : b_M_lookAll_54 (f + 1) u0 u1 m =
    b_M_lookAll_59 f u0 u1 (1 : Int32) m := rfl
set_option maxRecDepth 100000 in
set_option maxHeartbeats 4000000 in
theorem b_M_lookAll_58_eq (f : Nat) (u0 : Nat) (u1 : Int32) (m : Mm) : b_M_lookAll_58 (f + 1) u0 u1 m =
    b_M_lookAll_59 f u0 u1 (0 : Int32) m := rfl
set_option maxRecDepth 100000 in
set_option maxHeartbeats 4000000 in
theorem b_M_lookAll_59_eq (f : Nat) (u0 : Nat) (u1 : Int32) (u2 : Int32) (m : Mm) : b_M_lookAll_59 (f + 1) u0 u1 u2 m =
    (ab_ix u1 2).bind fun i1 =>
    (ab_bo u2).bind fun y3 =>
    ab_let (ab_uI m 157 u0 i1 y3) fun m2 =>
    some (.inl (none, m2)) := rfl
noncomputable def r_M_lookAll : Nat → Int32 → Mm → Option Mm := ab_seal fun v0 v1 m => ab_rV (b_M_lookAll_0 50000 v0 v1 m)
theorem r_M_lookAll_eq (v0 : Nat) (v1 : Int32) (m : Mm) : r_M_lookAll v0 v1 m = ab_rV (b_M_lookAll_0 50000 v0 v1 m) := by
  unfold r_M_lookAll
  rw [ab_seal_eq]
noncomputable def c_M_lookAll : List AV → Mm → Option Mm := fun av m => match av with
  | [.inr (.inr (kv0, ov0)), .inl v1] => if kv0 = 28 then (ov0.bind fun v0 => r_M_lookAll v0 v1 m) else none
  | _ => none
theorem c_M_lookAll_inv {av : List AV} {m : Mm} {r : Mm} (h : c_M_lookAll av m = some r) : ∃ (v0 : Nat) (v1 : Int32), av = [.inr (.inr (28, some v0)), .inl v1] ∧ r_M_lookAll v0 v1 m = some r := by
  unfold c_M_lookAll at h
  split at h
  · rename_i kv0 ov0 v1
    by_cases hkv0 : kv0 = 28
    case neg => rw [if_neg hkv0] at h; cases h
    rw [if_pos hkv0] at h
    subst hkv0
    obtain ⟨v0, hev0, h⟩ := Option.bind_eq_some_iff.mp h
    subst hev0
    exact ⟨v0, v1, rfl, h⟩
  · cases h
def cs_M_lookAll : List Nat := [2]
set_option maxRecDepth 100000 in
theorem E_M_lookAll : ∀ (pc : Nat) (q : Ent), i_M_lookAll pc = some q → ab_E KT CL ab_gW "StreamTransportModel" "lookAll" none prog_12_method_12_code s_M_lookAll 3 pc q.1 q.2.1 q.2.2.1 q.2.2.2.1 q.2.2.2.2 := fun pc q hq =>
  ab_Eb_ok lc_M lj_M fl_M (fpn_M "lookAll") nw_M na_M nq_M (ab_tab_all (t := t_M_lookAll) (chk := fun pc q => ab_Eb none prog_12_method_12_code s_M_lookAll 3 LC_M LJ_M FL_M FPn_M NW_M NA_M NQ_M pc q.1 q.2.1 q.2.2.1 q.2.2.2.1 q.2.2.2.2) (by decide +kernel) hq)
set_option maxRecDepth 100000 in
theorem kp_M_lookAll {av : List AV} {m : Mm} {r : Mm} (h : c_M_lookAll av m = some r) : ab_kp m r := by
  obtain ⟨v0, v1, -, h⟩ := c_M_lookAll_inv h
  rw [r_M_lookAll_eq] at h
  have hV : ∀ a av m m', eV_M_lookAll a av m = some m' → ab_kp m m' := ab_ev_all (P := fun _ m r => ab_kp m r) [] (fun q hq => by cases hq)
  have hI : ∀ a av m q, eI_M_lookAll a av m = some q → ab_kp m q.2 := ab_ev_all (P := fun _ (m : Mm) (r : Int32 × Mm) => ab_kp m r.2) [(107, c_M_allTarget)] (List.forall_mem_cons.mpr ⟨fun av m r h => kp_M_allTarget h, fun q hq => by cases hq⟩)
  exact ab_kprel (ρ := .inl (none, r)) (ab_tab_isn (t := t_M_lookAll) (by decide +kernel)) hV hI (ab_rV_inv h)
set_option maxRecDepth 100000 in
theorem cl_M_lookAll (l : Launch) : ∀ (pc : Nat) (q : Ent), i_M_lookAll pc = some q → ab_inv q.1 = true → ab_CR l KT CL none ab_gW "StreamTransportModel" prog_12_method_12_code 3 1 23 eV_M_lookAll eI_M_lookAll pc q := by
  intro pc q hq hi
  have hm : pc ∈ cs_M_lookAll := ab_tab_cs (t := t_M_lookAll) (by decide +kernel) hq hi
  simp only [cs_M_lookAll, List.mem_cons, List.not_mem_nil, or_false] at hm
  rcases hm with rfl
  · cases (Option.some.inj hq : ((.invokevirtual 159, 107, 2, 1, 0) : Ent) = q)
    exact ab_crV (C := "StreamTransportModel") (by decide +kernel) cw_M_allTarget (ab_gW_in 1182 (by decide +kernel) rfl) is_M_allTarget sl_M_allTarget (by decide) (fun av m m' h => by cases h) (fun av m r h => cm_M_allTarget l h) KT_nd
theorem cw_M_lookAll : ab_cw y_M_lookAll prog_12_method_12_code 3 1 none := ⟨ab_gW_in 1181 (by decide +kernel) rfl, ab_gW_in 71 (by decide +kernel) rfl, by decide +kernel, by decide +kernel, by decide +kernel⟩
theorem is_M_lookAll : Cond.instanceMethod y_M_lookAll ∈ ab_gW := ab_gW_in 1180 (by decide +kernel) rfl
theorem sl_M_lookAll : Cond.selects "StreamTransportModel" y_M_lookAll y_M_lookAll ∈ ab_gW := ab_gW_in 33 (by decide +kernel) rfl
set_option maxRecDepth 100000 in
theorem cm_M_lookAll (l : Launch) {av : List AV} {m : Mm} {r : Mm} (h0 : c_M_lookAll av m = some r) : ∃ (k q : Nat) (av' : List AV) (ci : Nat) (fs : List (Nat × Nat × Nat × Nat)) (z : vw_C), av = .inr (.inr (k, some q)) :: av' ∧ av'.length = 1 ∧ k ≠ 0 ∧ KT[k]? = some (.inl (ci, fs)) ∧ CL[ci]? = some z ∧ z.1 = "StreamTransportModel" ∧ ab_nos av' ∧ ab_Met l KT CL y_M_lookAll (Cond.code y_M_lookAll prog_12_method_12_code 3 none :: ab_gW) 1 23 none av m none r := by
  obtain ⟨v0, v1, hav, h⟩ := c_M_lookAll_inv h0
  rw [r_M_lookAll_eq] at h
  have hmo : ab_mo m r := ab_kp_mo (kp_M_lookAll h0)
  subst hav
  exact ⟨_, _, _, _, _, _, rfl, rfl, by decide, rfl, rfl, rfl, (by intro v hv q e; subst e; simp at hv), ab_met (by decide +kernel) KT_0 KT_nd KT_k3 E_M_lookAll (cl_M_lookAll l) hmo (Nat.le_of_ble_eq_true rfl) (ab_rV_inv h) (fun v hv => by cases hv)⟩
/-! StreamTransportModel.width(I)I -/
def y_M_width : MethodName := ⟨"StreamTransportModel", "width", "(I)I"⟩
def t_M_width (pc : Nat) : Option Ent :=
  bif Nat.blt pc 11 then
    (bif Nat.blt pc 6 then
      (bif Nat.blt pc 1 then
        (bif Nat.beq pc 0 then some (.iload_n 0, 0, 0, 0, 0) else none)
      else
        bif Nat.blt pc 3 then
          (bif Nat.beq pc 1 then some (.bipush 64, 0, 0, 0, 64) else none)
        else
          bif Nat.beq pc 3 then some (.if_icmp .ge (7), 10, 0, 0, 0) else none)
    else
      bif Nat.blt pc 7 then
        (bif Nat.beq pc 6 then some (.iconst 1, 0, 0, 0, 1) else none)
      else
        bif Nat.blt pc 10 then
          (bif Nat.beq pc 7 then some (.goto 15, 22, 0, 0, 0) else none)
        else
          bif Nat.beq pc 10 then some (.iload_n 0, 0, 0, 0, 0) else none)
  else
    bif Nat.blt pc 18 then
      (bif Nat.blt pc 14 then
        (bif Nat.beq pc 11 then some (.sipush 16384, 0, 0, 0, 16384) else none)
      else
        bif Nat.blt pc 17 then
          (bif Nat.beq pc 14 then some (.if_icmp .ge (7), 21, 0, 0, 0) else none)
        else
          bif Nat.beq pc 17 then some (.iconst 2, 0, 0, 0, 2) else none)
    else
      bif Nat.blt pc 21 then
        (bif Nat.beq pc 18 then some (.goto 4, 22, 0, 0, 0) else none)
      else
        bif Nat.blt pc 22 then
          (bif Nat.beq pc 21 then some (.iconst 4, 0, 0, 0, 4) else none)
        else
          bif Nat.beq pc 22 then some (.ireturn, 0, 0, 0, 0) else none
def i_M_width : Nat → Option Ent := ab_tab 23 t_M_width
def h_M_width (pc : Nat) : Nat × List Bool := (0, [])
def s_M_width (pc : Nat) : List (Int32 × Nat) × Nat := ([], 0)
noncomputable def eV_M_width : Nat → List AV → Mm → Option Mm := ab_ev []
noncomputable def eI_M_width : Nat → List AV → Mm → Option (Int32 × Mm) := ab_ev []
noncomputable def b_M_width_0 (f : Nat) (v0 : Int32) (m : Mm) : Option Rs := ab_ex KT none s_M_width eV_M_width eI_M_width i_M_width h_M_width f 0 [some (.inl v0)] [] m
set_option maxRecDepth 100000 in
set_option maxHeartbeats 4000000 in
theorem b_M_width_0_eq (f : Nat) (v0 : Int32) (m : Mm) : b_M_width_0 (f + 1) v0 m =
    if (64 : Int32) ≤ v0 then
      if (16384 : Int32) ≤ v0 then
        some (.inl (some (.inl (4 : Int32)), m))
      else
        some (.inl (some (.inl (2 : Int32)), m))
    else
      some (.inl (some (.inl (1 : Int32)), m)) := rfl
noncomputable def r_M_width : Int32 → Mm → Option (Int32 × Mm) := ab_seal fun v0 m => ab_rI (b_M_width_0 50000 v0 m)
theorem r_M_width_eq (v0 : Int32) (m : Mm) : r_M_width v0 m = ab_rI (b_M_width_0 50000 v0 m) := by
  unfold r_M_width
  rw [ab_seal_eq]
noncomputable def c_M_width : List AV → Mm → Option (Int32 × Mm) := fun av m => match av with
  | [.inl v0] => r_M_width v0 m
  | _ => none
theorem c_M_width_inv {av : List AV} {m : Mm} {r : Int32 × Mm} (h : c_M_width av m = some r) : ∃ (v0 : Int32), av = [.inl v0] ∧ r_M_width v0 m = some r := by
  unfold c_M_width at h
  split at h
  · rename_i v0
    exact ⟨v0, rfl, h⟩
  · cases h
def cs_M_width : List Nat := []
set_option maxRecDepth 100000 in
theorem E_M_width : ∀ (pc : Nat) (q : Ent), i_M_width pc = some q → ab_E KT CL ab_gW "StreamTransportModel" "width" (some .int) prog_12_method_14_code s_M_width 1 pc q.1 q.2.1 q.2.2.1 q.2.2.2.1 q.2.2.2.2 := fun pc q hq =>
  ab_Eb_ok lc_M lj_M fl_M (fpn_M "width") nw_M na_M nq_M (ab_tab_all (t := t_M_width) (chk := fun pc q => ab_Eb (some .int) prog_12_method_14_code s_M_width 1 LC_M LJ_M FL_M FPn_M NW_M NA_M NQ_M pc q.1 q.2.1 q.2.2.1 q.2.2.2.1 q.2.2.2.2) (by decide +kernel) hq)
set_option maxRecDepth 100000 in
theorem kp_M_width {av : List AV} {m : Mm} {r : Int32 × Mm} (h : c_M_width av m = some r) : ab_kp m r.2 := by
  obtain ⟨v0, -, h⟩ := c_M_width_inv h
  rw [r_M_width_eq] at h
  have hV : ∀ a av m m', eV_M_width a av m = some m' → ab_kp m m' := ab_ev_all (P := fun _ m r => ab_kp m r) [] (fun q hq => by cases hq)
  have hI : ∀ a av m q, eI_M_width a av m = some q → ab_kp m q.2 := ab_ev_all (P := fun _ (m : Mm) (r : Int32 × Mm) => ab_kp m r.2) [] (fun q hq => by cases hq)
  exact ab_kprel (ρ := .inl (some (.inl r.1), r.2)) (ab_tab_isn (t := t_M_width) (by decide +kernel)) hV hI (ab_rI_inv h)
set_option maxRecDepth 100000 in
theorem cl_M_width (l : Launch) : ∀ (pc : Nat) (q : Ent), i_M_width pc = some q → ab_inv q.1 = true → ab_CR l KT CL none ab_gW "StreamTransportModel" prog_12_method_14_code 1 0 0 eV_M_width eI_M_width pc q := by
  intro pc q hq hi
  have hm : pc ∈ cs_M_width := ab_tab_cs (t := t_M_width) (by decide +kernel) hq hi
  cases hm
theorem cw_M_width : ab_cw y_M_width prog_12_method_14_code 1 1 (some .int) := ⟨ab_gW_in 1204 (by decide +kernel) rfl, ab_gW_in 71 (by decide +kernel) rfl, by decide +kernel, by decide +kernel, by decide +kernel⟩
theorem st_M_width : Cond.static y_M_width ∈ ab_gW := ab_gW_in 1203 (by decide +kernel) rfl
set_option maxRecDepth 100000 in
theorem cm_M_width (l : Launch) {av : List AV} {m : Mm} {r : Int32 × Mm} (h0 : c_M_width av m = some r) : av.length = 1 ∧ ab_nos av ∧ ab_Met l KT CL y_M_width (Cond.code y_M_width prog_12_method_14_code 1 (some .int) :: ab_gW) 0 0 none av m (some (.inl r.1)) r.2 := by
  obtain ⟨v0, hav, h⟩ := c_M_width_inv h0
  rw [r_M_width_eq] at h
  have hmo : ab_mo m r.2 := ab_kp_mo (kp_M_width h0)
  subst hav
  exact ⟨rfl, (by intro v hv q e; subst e; simp at hv), ab_met (by decide +kernel) KT_0 KT_nd KT_k3 E_M_width (cl_M_width l) hmo (Nat.le_of_ble_eq_true rfl) (ab_rI_inv h) (fun v hv => by cases hv; exact ⟨_, rfl⟩)⟩
/-! StreamTransportModel.put(I)V -/
def y_M_put : MethodName := ⟨"StreamTransportModel", "put", "(I)V"⟩
def t_M_put (pc : Nat) : Option Ent :=
  bif Nat.blt pc 11 then
    (bif Nat.blt pc 5 then
      (bif Nat.blt pc 1 then
        (bif Nat.beq pc 0 then some (.aload_n 0, 0, 0, 0, 0) else none)
      else
        bif Nat.blt pc 4 then
          (bif Nat.beq pc 1 then some (.getfield 116, 10, 40, 1, 0) else none)
        else
          bif Nat.beq pc 4 then some (.iconst 1, 0, 0, 0, 1) else none)
    else
      bif Nat.blt pc 9 then
        (bif Nat.blt pc 6 then
          (bif Nat.beq pc 5 then some (.aload_n 0, 0, 0, 0, 0) else none)
        else
          bif Nat.beq pc 6 then some (.getfield 162, 10, 44, 0, 0) else none)
      else
        bif Nat.blt pc 10 then
          (bif Nat.beq pc 9 then some (.iadd, 0, 0, 0, 0) else none)
        else
          bif Nat.beq pc 10 then some (.iload_n 1, 1, 0, 0, 0) else none)
  else
    bif Nat.blt pc 17 then
      (bif Nat.blt pc 13 then
        (bif Nat.blt pc 12 then
          (bif Nat.beq pc 11 then some (.iastore, 0, 0, 0, 0) else none)
        else
          bif Nat.beq pc 12 then some (.aload_n 0, 0, 0, 0, 0) else none)
      else
        bif Nat.blt pc 14 then
          (bif Nat.beq pc 13 then some (.dup, 0, 0, 1, 0) else none)
        else
          bif Nat.beq pc 14 then some (.getfield 162, 10, 44, 0, 0) else none)
    else
      bif Nat.blt pc 19 then
        (bif Nat.blt pc 18 then
          (bif Nat.beq pc 17 then some (.iconst 1, 0, 0, 0, 1) else none)
        else
          bif Nat.beq pc 18 then some (.iadd, 0, 0, 0, 0) else none)
      else
        bif Nat.blt pc 22 then
          (bif Nat.beq pc 19 then some (.putfield 162, 10, 44, 0, 0) else none)
        else
          bif Nat.beq pc 22 then some (.return_, 0, 0, 0, 0) else none
def i_M_put : Nat → Option Ent := ab_tab 23 t_M_put
def h_M_put (pc : Nat) : Nat × List Bool := (0, [])
def s_M_put (pc : Nat) : List (Int32 × Nat) × Nat := ([], 0)
noncomputable def eV_M_put : Nat → List AV → Mm → Option Mm := ab_ev []
noncomputable def eI_M_put : Nat → List AV → Mm → Option (Int32 × Mm) := ab_ev []
noncomputable def b_M_put_0 (f : Nat) (v0 : Nat) (v1 : Int32) (m : Mm) : Option Rs := ab_ex KT none s_M_put eV_M_put eI_M_put i_M_put h_M_put f 0 [some (.inr (.inr (28, some v0))), some (.inl v1)] [] m
set_option maxRecDepth 100000 in
set_option maxHeartbeats 4000000 in
theorem b_M_put_0_eq (f : Nat) (v0 : Nat) (v1 : Int32) (m : Mm) : b_M_put_0 (f + 1) v0 v1 m =
    (ab_ix ((1 : Int32) + (m.1 125 v0 0)) 48).bind fun i1 =>
    ab_let (ab_uI m 168 (v0 + 36) i1 v1) fun m2 =>
    ab_let (ab_uI m2 125 v0 0 ((m2.1 125 v0 0) + (1 : Int32))) fun m3 =>
    some (.inl (none, m3)) := rfl
noncomputable def r_M_put : Nat → Int32 → Mm → Option Mm := ab_seal fun v0 v1 m => ab_rV (b_M_put_0 50000 v0 v1 m)
theorem r_M_put_eq (v0 : Nat) (v1 : Int32) (m : Mm) : r_M_put v0 v1 m = ab_rV (b_M_put_0 50000 v0 v1 m) := by
  unfold r_M_put
  rw [ab_seal_eq]
noncomputable def c_M_put : List AV → Mm → Option Mm := fun av m => match av with
  | [.inr (.inr (kv0, ov0)), .inl v1] => if kv0 = 28 then (ov0.bind fun v0 => r_M_put v0 v1 m) else none
  | _ => none
theorem c_M_put_inv {av : List AV} {m : Mm} {r : Mm} (h : c_M_put av m = some r) : ∃ (v0 : Nat) (v1 : Int32), av = [.inr (.inr (28, some v0)), .inl v1] ∧ r_M_put v0 v1 m = some r := by
  unfold c_M_put at h
  split at h
  · rename_i kv0 ov0 v1
    by_cases hkv0 : kv0 = 28
    case neg => rw [if_neg hkv0] at h; cases h
    rw [if_pos hkv0] at h
    subst hkv0
    obtain ⟨v0, hev0, h⟩ := Option.bind_eq_some_iff.mp h
    subst hev0
    exact ⟨v0, v1, rfl, h⟩
  · cases h
def cs_M_put : List Nat := []
set_option maxRecDepth 100000 in
theorem E_M_put : ∀ (pc : Nat) (q : Ent), i_M_put pc = some q → ab_E KT CL ab_gW "StreamTransportModel" "put" none prog_12_method_15_code s_M_put 2 pc q.1 q.2.1 q.2.2.1 q.2.2.2.1 q.2.2.2.2 := fun pc q hq =>
  ab_Eb_ok lc_M lj_M fl_M (fpn_M "put") nw_M na_M nq_M (ab_tab_all (t := t_M_put) (chk := fun pc q => ab_Eb none prog_12_method_15_code s_M_put 2 LC_M LJ_M FL_M FPn_M NW_M NA_M NQ_M pc q.1 q.2.1 q.2.2.1 q.2.2.2.1 q.2.2.2.2) (by decide +kernel) hq)
set_option maxRecDepth 100000 in
theorem kp_M_put {av : List AV} {m : Mm} {r : Mm} (h : c_M_put av m = some r) : ab_kp m r := by
  obtain ⟨v0, v1, -, h⟩ := c_M_put_inv h
  rw [r_M_put_eq] at h
  have hV : ∀ a av m m', eV_M_put a av m = some m' → ab_kp m m' := ab_ev_all (P := fun _ m r => ab_kp m r) [] (fun q hq => by cases hq)
  have hI : ∀ a av m q, eI_M_put a av m = some q → ab_kp m q.2 := ab_ev_all (P := fun _ (m : Mm) (r : Int32 × Mm) => ab_kp m r.2) [] (fun q hq => by cases hq)
  exact ab_kprel (ρ := .inl (none, r)) (ab_tab_isn (t := t_M_put) (by decide +kernel)) hV hI (ab_rV_inv h)
set_option maxRecDepth 100000 in
theorem cl_M_put (l : Launch) : ∀ (pc : Nat) (q : Ent), i_M_put pc = some q → ab_inv q.1 = true → ab_CR l KT CL none ab_gW "StreamTransportModel" prog_12_method_15_code 2 0 0 eV_M_put eI_M_put pc q := by
  intro pc q hq hi
  have hm : pc ∈ cs_M_put := ab_tab_cs (t := t_M_put) (by decide +kernel) hq hi
  cases hm
theorem cw_M_put : ab_cw y_M_put prog_12_method_15_code 2 1 none := ⟨ab_gW_in 1197 (by decide +kernel) rfl, ab_gW_in 71 (by decide +kernel) rfl, by decide +kernel, by decide +kernel, by decide +kernel⟩
theorem is_M_put : Cond.instanceMethod y_M_put ∈ ab_gW := ab_gW_in 1196 (by decide +kernel) rfl
theorem sl_M_put : Cond.selects "StreamTransportModel" y_M_put y_M_put ∈ ab_gW := ab_gW_in 35 (by decide +kernel) rfl
set_option maxRecDepth 100000 in
theorem cm_M_put (l : Launch) {av : List AV} {m : Mm} {r : Mm} (h0 : c_M_put av m = some r) : ∃ (k q : Nat) (av' : List AV) (ci : Nat) (fs : List (Nat × Nat × Nat × Nat)) (z : vw_C), av = .inr (.inr (k, some q)) :: av' ∧ av'.length = 1 ∧ k ≠ 0 ∧ KT[k]? = some (.inl (ci, fs)) ∧ CL[ci]? = some z ∧ z.1 = "StreamTransportModel" ∧ ab_nos av' ∧ ab_Met l KT CL y_M_put (Cond.code y_M_put prog_12_method_15_code 2 none :: ab_gW) 0 0 none av m none r := by
  obtain ⟨v0, v1, hav, h⟩ := c_M_put_inv h0
  rw [r_M_put_eq] at h
  have hmo : ab_mo m r := ab_kp_mo (kp_M_put h0)
  subst hav
  exact ⟨_, _, _, _, _, _, rfl, rfl, by decide, rfl, rfl, rfl, (by intro v hv q e; subst e; simp at hv), ab_met (by decide +kernel) KT_0 KT_nd KT_k3 E_M_put (cl_M_put l) hmo (Nat.le_of_ble_eq_true rfl) (ab_rV_inv h) (fun v hv => by cases hv)⟩
/-! StreamTransportModel.putNumber(I)V -/
def y_M_putNumber : MethodName := ⟨"StreamTransportModel", "putNumber", "(I)V"⟩
def t_M_putNumber (pc : Nat) : Option Ent :=
  bif Nat.blt pc 42 then
    (bif Nat.blt pc 19 then
      (bif Nat.blt pc 10 then
        (bif Nat.blt pc 5 then
          (bif Nat.blt pc 1 then
            (bif Nat.beq pc 0 then some (.iload_n 1, 1, 0, 0, 0) else none)
          else
            bif Nat.blt pc 4 then
              (bif Nat.beq pc 1 then some (.invokestatic 165, 109, 1, 1, 0) else none)
            else
              bif Nat.beq pc 4 then some (.istore_n 2, 2, 0, 0, 0) else none)
        else
          bif Nat.blt pc 6 then
            (bif Nat.beq pc 5 then some (.iload_n 2, 2, 0, 0, 0) else none)
          else
            bif Nat.blt pc 7 then
              (bif Nat.beq pc 6 then some (.iconst 4, 0, 0, 0, 4) else none)
            else
              bif Nat.beq pc 7 then some (.if_icmp .ne (27), 34, 0, 0, 0) else none)
      else
        bif Nat.blt pc 15 then
          (bif Nat.blt pc 11 then
            (bif Nat.beq pc 10 then some (.aload_n 0, 0, 0, 0, 0) else none)
          else
            bif Nat.blt pc 14 then
              (bif Nat.beq pc 11 then some (.sipush 128, 0, 0, 0, 128) else none)
            else
              bif Nat.beq pc 14 then some (.iload_n 1, 1, 0, 0, 0) else none)
        else
          bif Nat.blt pc 17 then
            (bif Nat.beq pc 15 then some (.bipush 24, 0, 0, 0, 24) else none)
          else
            bif Nat.blt pc 18 then
              (bif Nat.beq pc 17 then some (.ishr, 0, 0, 0, 0) else none)
            else
              bif Nat.beq pc 18 then some (.iadd, 0, 0, 0, 0) else none)
    else
      bif Nat.blt pc 30 then
        (bif Nat.blt pc 24 then
          (bif Nat.blt pc 22 then
            (bif Nat.beq pc 19 then some (.invokevirtual 168, 110, 2, 0, 0) else none)
          else
            bif Nat.blt pc 23 then
              (bif Nat.beq pc 22 then some (.aload_n 0, 0, 0, 0, 0) else none)
            else
              bif Nat.beq pc 23 then some (.iload_n 1, 1, 0, 0, 0) else none)
        else
          bif Nat.blt pc 26 then
            (bif Nat.beq pc 24 then some (.bipush 16, 0, 0, 0, 16) else none)
          else
            bif Nat.blt pc 27 then
              (bif Nat.beq pc 26 then some (.ishr, 0, 0, 0, 0) else none)
            else
              bif Nat.beq pc 27 then some (.sipush 255, 0, 0, 0, 255) else none)
      else
        bif Nat.blt pc 35 then
          (bif Nat.blt pc 31 then
            (bif Nat.beq pc 30 then some (.iand, 0, 0, 0, 0) else none)
          else
            bif Nat.blt pc 34 then
              (bif Nat.beq pc 31 then some (.invokevirtual 168, 110, 2, 0, 0) else none)
            else
              bif Nat.beq pc 34 then some (.iload_n 2, 2, 0, 0, 0) else none)
        else
          bif Nat.blt pc 39 then
            (bif Nat.blt pc 36 then
              (bif Nat.beq pc 35 then some (.iconst 2, 0, 0, 0, 2) else none)
            else
              bif Nat.beq pc 36 then some (.if_icmp .ne (14), 50, 0, 0, 0) else none)
          else
            bif Nat.blt pc 40 then
              (bif Nat.beq pc 39 then some (.aload_n 0, 0, 0, 0, 0) else none)
            else
              bif Nat.beq pc 40 then some (.bipush 64, 0, 0, 0, 64) else none)
  else
    bif Nat.blt pc 63 then
      (bif Nat.blt pc 51 then
        (bif Nat.blt pc 46 then
          (bif Nat.blt pc 43 then
            (bif Nat.beq pc 42 then some (.iload_n 1, 1, 0, 0, 0) else none)
          else
            bif Nat.blt pc 45 then
              (bif Nat.beq pc 43 then some (.bipush 8, 0, 0, 0, 8) else none)
            else
              bif Nat.beq pc 45 then some (.ishr, 0, 0, 0, 0) else none)
        else
          bif Nat.blt pc 47 then
            (bif Nat.beq pc 46 then some (.iadd, 0, 0, 0, 0) else none)
          else
            bif Nat.blt pc 50 then
              (bif Nat.beq pc 47 then some (.invokevirtual 168, 110, 2, 0, 0) else none)
            else
              bif Nat.beq pc 50 then some (.iload_n 2, 2, 0, 0, 0) else none)
      else
        bif Nat.blt pc 56 then
          (bif Nat.blt pc 52 then
            (bif Nat.beq pc 51 then some (.iconst 4, 0, 0, 0, 4) else none)
          else
            bif Nat.blt pc 55 then
              (bif Nat.beq pc 52 then some (.if_icmp .ne (15), 67, 0, 0, 0) else none)
            else
              bif Nat.beq pc 55 then some (.aload_n 0, 0, 0, 0, 0) else none)
        else
          bif Nat.blt pc 59 then
            (bif Nat.blt pc 57 then
              (bif Nat.beq pc 56 then some (.iload_n 1, 1, 0, 0, 0) else none)
            else
              bif Nat.beq pc 57 then some (.bipush 8, 0, 0, 0, 8) else none)
          else
            bif Nat.blt pc 60 then
              (bif Nat.beq pc 59 then some (.ishr, 0, 0, 0, 0) else none)
            else
              bif Nat.beq pc 60 then some (.sipush 255, 0, 0, 0, 255) else none)
    else
      bif Nat.blt pc 73 then
        (bif Nat.blt pc 68 then
          (bif Nat.blt pc 64 then
            (bif Nat.beq pc 63 then some (.iand, 0, 0, 0, 0) else none)
          else
            bif Nat.blt pc 67 then
              (bif Nat.beq pc 64 then some (.invokevirtual 168, 110, 2, 0, 0) else none)
            else
              bif Nat.beq pc 67 then some (.aload_n 0, 0, 0, 0, 0) else none)
        else
          bif Nat.blt pc 69 then
            (bif Nat.beq pc 68 then some (.iload_n 2, 2, 0, 0, 0) else none)
          else
            bif Nat.blt pc 70 then
              (bif Nat.beq pc 69 then some (.iconst 1, 0, 0, 0, 1) else none)
            else
              bif Nat.beq pc 70 then some (.if_icmp .ne (7), 77, 0, 0, 0) else none)
      else
        bif Nat.blt pc 78 then
          (bif Nat.blt pc 74 then
            (bif Nat.beq pc 73 then some (.iload_n 1, 1, 0, 0, 0) else none)
          else
            bif Nat.blt pc 77 then
              (bif Nat.beq pc 74 then some (.goto 8, 82, 0, 0, 0) else none)
            else
              bif Nat.beq pc 77 then some (.iload_n 1, 1, 0, 0, 0) else none)
        else
          bif Nat.blt pc 82 then
            (bif Nat.blt pc 81 then
              (bif Nat.beq pc 78 then some (.sipush 255, 0, 0, 0, 255) else none)
            else
              bif Nat.beq pc 81 then some (.iand, 0, 0, 0, 0) else none)
          else
            bif Nat.blt pc 85 then
              (bif Nat.beq pc 82 then some (.invokevirtual 168, 110, 2, 0, 0) else none)
            else
              bif Nat.beq pc 85 then some (.return_, 0, 0, 0, 0) else none
def i_M_putNumber : Nat → Option Ent := ab_tab 86 t_M_putNumber
def h_M_putNumber (pc : Nat) : Nat × List Bool := bif Nat.beq pc 34 then (1, [true, true, true]) else bif Nat.beq pc 50 then (1, [true, true, true]) else bif Nat.beq pc 67 then (1, [true, true, true]) else bif Nat.beq pc 82 then (1, [false, false, false]) else (0, [])
def s_M_putNumber (pc : Nat) : List (Int32 × Nat) × Nat := ([], 0)
noncomputable def eV_M_putNumber : Nat → List AV → Mm → Option Mm := ab_ev [(110, c_M_put)]
noncomputable def eI_M_putNumber : Nat → List AV → Mm → Option (Int32 × Mm) := ab_ev [(109, c_M_width)]
noncomputable def b_M_putNumber_0 (f : Nat) (v0 : Nat) (v1 : Int32) (m : Mm) : Option Rs := ab_ex KT none s_M_putNumber eV_M_putNumber eI_M_putNumber i_M_putNumber h_M_putNumber f 0 [some (.inr (.inr (28, some v0))), some (.inl v1), none] [] m
noncomputable def b_M_putNumber_34 (f : Nat) (v0 : Nat) (v1 : Int32) (v2 : Int32) (m : Mm) : Option Rs := ab_ex KT none s_M_putNumber eV_M_putNumber eI_M_putNumber i_M_putNumber h_M_putNumber f 34 [some (.inr (.inr (28, some v0))), some (.inl v1), some (.inl v2)] [] m
noncomputable def b_M_putNumber_50 (f : Nat) (v0 : Nat) (v1 : Int32) (v2 : Int32) (m : Mm) : Option Rs := ab_ex KT none s_M_putNumber eV_M_putNumber eI_M_putNumber i_M_putNumber h_M_putNumber f 50 [some (.inr (.inr (28, some v0))), some (.inl v1), some (.inl v2)] [] m
noncomputable def b_M_putNumber_67 (f : Nat) (v0 : Nat) (v1 : Int32) (v2 : Int32) (m : Mm) : Option Rs := ab_ex KT none s_M_putNumber eV_M_putNumber eI_M_putNumber i_M_putNumber h_M_putNumber f 67 [some (.inr (.inr (28, some v0))), some (.inl v1), some (.inl v2)] [] m
noncomputable def b_M_putNumber_82 (f : Nat) (u0 : Nat) (u1 : Int32) (m : Mm) : Option Rs := ab_ex KT none s_M_putNumber eV_M_putNumber eI_M_putNumber i_M_putNumber h_M_putNumber f 82 [none, none, none] [.inl u1, .inr (.inr (28, some u0))] m
set_option maxRecDepth 100000 in
set_option maxHeartbeats 4000000 in
theorem b_M_putNumber_0_eq (f : Nat) (v0 : Nat) (v1 : Int32) (m : Mm) : b_M_putNumber_0 (f + 1) v0 v1 m =
    (r_M_width v1 m).bind fun z1 =>
    if z1.1 = (4 : Int32) then
      (r_M_put v0 ((128 : Int32) + (v1 >>> ((24 : Int32) &&& 31))) z1.2).bind fun m2 =>
      (r_M_put v0 ((v1 >>> ((16 : Int32) &&& 31)) &&& (255 : Int32)) m2).bind fun m3 =>
      b_M_putNumber_34 f v0 v1 z1.1 m3
    else
      b_M_putNumber_34 f v0 v1 z1.1 z1.2 := rfl
set_option maxRecDepth 100000 in
set_option maxHeartbeats 4000000 in
theorem b_M_putNumber_34_eq (f : Nat) (v0 : Nat) (v1 : Int32) (v2 : Int32) (m : Mm) : b_M_putNumber_34 (f + 1) v0 v1 v2 m =
    if v2 = (2 : Int32) then
      (r_M_put v0 ((64 : Int32) + (v1 >>> ((8 : Int32) &&& 31))) m).bind fun m1 =>
      b_M_putNumber_50 f v0 v1 v2 m1
    else
      b_M_putNumber_50 f v0 v1 v2 m := rfl
set_option maxRecDepth 100000 in
set_option maxHeartbeats 4000000 in
theorem b_M_putNumber_50_eq (f : Nat) (v0 : Nat) (v1 : Int32) (v2 : Int32) (m : Mm) : b_M_putNumber_50 (f + 1) v0 v1 v2 m =
    if v2 = (4 : Int32) then
      (r_M_put v0 ((v1 >>> ((8 : Int32) &&& 31)) &&& (255 : Int32)) m).bind fun m1 =>
      b_M_putNumber_67 f v0 v1 v2 m1
    else
      b_M_putNumber_67 f v0 v1 v2 m := rfl
set_option maxRecDepth 100000 in
set_option maxHeartbeats 4000000 in
theorem b_M_putNumber_67_eq (f : Nat) (v0 : Nat) (v1 : Int32) (v2 : Int32) (m : Mm) : b_M_putNumber_67 (f + 1) v0 v1 v2 m =
    if v2 = (1 : Int32) then
      b_M_putNumber_82 f v0 v1 m
    else
      b_M_putNumber_82 f v0 (v1 &&& (255 : Int32)) m := rfl
set_option maxRecDepth 100000 in
set_option maxHeartbeats 4000000 in
theorem b_M_putNumber_82_eq (f : Nat) (u0 : Nat) (u1 : Int32) (m : Mm) : b_M_putNumber_82 (f + 1) u0 u1 m =
    (r_M_put u0 u1 m).bind fun m1 =>
    some (.inl (none, m1)) := rfl
noncomputable def r_M_putNumber : Nat → Int32 → Mm → Option Mm := ab_seal fun v0 v1 m => ab_rV (b_M_putNumber_0 50000 v0 v1 m)
theorem r_M_putNumber_eq (v0 : Nat) (v1 : Int32) (m : Mm) : r_M_putNumber v0 v1 m = ab_rV (b_M_putNumber_0 50000 v0 v1 m) := by
  unfold r_M_putNumber
  rw [ab_seal_eq]
noncomputable def c_M_putNumber : List AV → Mm → Option Mm := fun av m => match av with
  | [.inr (.inr (kv0, ov0)), .inl v1] => if kv0 = 28 then (ov0.bind fun v0 => r_M_putNumber v0 v1 m) else none
  | _ => none
theorem c_M_putNumber_inv {av : List AV} {m : Mm} {r : Mm} (h : c_M_putNumber av m = some r) : ∃ (v0 : Nat) (v1 : Int32), av = [.inr (.inr (28, some v0)), .inl v1] ∧ r_M_putNumber v0 v1 m = some r := by
  unfold c_M_putNumber at h
  split at h
  · rename_i kv0 ov0 v1
    by_cases hkv0 : kv0 = 28
    case neg => rw [if_neg hkv0] at h; cases h
    rw [if_pos hkv0] at h
    subst hkv0
    obtain ⟨v0, hev0, h⟩ := Option.bind_eq_some_iff.mp h
    subst hev0
    exact ⟨v0, v1, rfl, h⟩
  · cases h
def cs_M_putNumber : List Nat := [1, 19, 31, 47, 64, 82]
set_option maxRecDepth 100000 in
theorem E_M_putNumber : ∀ (pc : Nat) (q : Ent), i_M_putNumber pc = some q → ab_E KT CL ab_gW "StreamTransportModel" "putNumber" none prog_12_method_16_code s_M_putNumber 3 pc q.1 q.2.1 q.2.2.1 q.2.2.2.1 q.2.2.2.2 := fun pc q hq =>
  ab_Eb_ok lc_M lj_M fl_M (fpn_M "putNumber") nw_M na_M nq_M (ab_tab_all (t := t_M_putNumber) (chk := fun pc q => ab_Eb none prog_12_method_16_code s_M_putNumber 3 LC_M LJ_M FL_M FPn_M NW_M NA_M NQ_M pc q.1 q.2.1 q.2.2.1 q.2.2.2.1 q.2.2.2.2) (by decide +kernel) hq)
set_option maxRecDepth 100000 in
theorem kp_M_putNumber {av : List AV} {m : Mm} {r : Mm} (h : c_M_putNumber av m = some r) : ab_kp m r := by
  obtain ⟨v0, v1, -, h⟩ := c_M_putNumber_inv h
  rw [r_M_putNumber_eq] at h
  have hV : ∀ a av m m', eV_M_putNumber a av m = some m' → ab_kp m m' := ab_ev_all (P := fun _ m r => ab_kp m r) [(110, c_M_put)] (List.forall_mem_cons.mpr ⟨fun av m r h => kp_M_put h, fun q hq => by cases hq⟩)
  have hI : ∀ a av m q, eI_M_putNumber a av m = some q → ab_kp m q.2 := ab_ev_all (P := fun _ (m : Mm) (r : Int32 × Mm) => ab_kp m r.2) [(109, c_M_width)] (List.forall_mem_cons.mpr ⟨fun av m r h => kp_M_width h, fun q hq => by cases hq⟩)
  exact ab_kprel (ρ := .inl (none, r)) (ab_tab_isn (t := t_M_putNumber) (by decide +kernel)) hV hI (ab_rV_inv h)
set_option maxRecDepth 100000 in
theorem cl_M_putNumber (l : Launch) : ∀ (pc : Nat) (q : Ent), i_M_putNumber pc = some q → ab_inv q.1 = true → ab_CR l KT CL none ab_gW "StreamTransportModel" prog_12_method_16_code 3 1 21 eV_M_putNumber eI_M_putNumber pc q := by
  intro pc q hq hi
  have hm : pc ∈ cs_M_putNumber := ab_tab_cs (t := t_M_putNumber) (by decide +kernel) hq hi
  simp only [cs_M_putNumber, List.mem_cons, List.not_mem_nil, or_false] at hm
  rcases hm with rfl | rfl | rfl | rfl | rfl | rfl
  · cases (Option.some.inj hq : ((.invokestatic 165, 109, 1, 1, 0) : Ent) = q)
    exact ab_crS (by decide +kernel) cw_M_width (ab_gW_in 1202 (by decide +kernel) rfl) st_M_width (by decide) (fun av m m' h => by cases h) (fun av m r h => cm_M_width l h) KT_nd
  · cases (Option.some.inj hq : ((.invokevirtual 168, 110, 2, 0, 0) : Ent) = q)
    exact ab_crV (C := "StreamTransportModel") (by decide +kernel) cw_M_put (ab_gW_in 1194 (by decide +kernel) rfl) is_M_put sl_M_put (by decide) (fun av m m' h => cm_M_put l h) (fun av m r h => by cases h) KT_nd
  · cases (Option.some.inj hq : ((.invokevirtual 168, 110, 2, 0, 0) : Ent) = q)
    exact ab_crV (C := "StreamTransportModel") (by decide +kernel) cw_M_put (ab_gW_in 1194 (by decide +kernel) rfl) is_M_put sl_M_put (by decide) (fun av m m' h => cm_M_put l h) (fun av m r h => by cases h) KT_nd
  · cases (Option.some.inj hq : ((.invokevirtual 168, 110, 2, 0, 0) : Ent) = q)
    exact ab_crV (C := "StreamTransportModel") (by decide +kernel) cw_M_put (ab_gW_in 1194 (by decide +kernel) rfl) is_M_put sl_M_put (by decide) (fun av m m' h => cm_M_put l h) (fun av m r h => by cases h) KT_nd
  · cases (Option.some.inj hq : ((.invokevirtual 168, 110, 2, 0, 0) : Ent) = q)
    exact ab_crV (C := "StreamTransportModel") (by decide +kernel) cw_M_put (ab_gW_in 1194 (by decide +kernel) rfl) is_M_put sl_M_put (by decide) (fun av m m' h => cm_M_put l h) (fun av m r h => by cases h) KT_nd
  · cases (Option.some.inj hq : ((.invokevirtual 168, 110, 2, 0, 0) : Ent) = q)
    exact ab_crV (C := "StreamTransportModel") (by decide +kernel) cw_M_put (ab_gW_in 1194 (by decide +kernel) rfl) is_M_put sl_M_put (by decide) (fun av m m' h => cm_M_put l h) (fun av m r h => by cases h) KT_nd
theorem cw_M_putNumber : ab_cw y_M_putNumber prog_12_method_16_code 3 1 none := ⟨ab_gW_in 1201 (by decide +kernel) rfl, ab_gW_in 71 (by decide +kernel) rfl, by decide +kernel, by decide +kernel, by decide +kernel⟩
theorem is_M_putNumber : Cond.instanceMethod y_M_putNumber ∈ ab_gW := ab_gW_in 1200 (by decide +kernel) rfl
theorem sl_M_putNumber : Cond.selects "StreamTransportModel" y_M_putNumber y_M_putNumber ∈ ab_gW := ab_gW_in 36 (by decide +kernel) rfl
set_option maxRecDepth 100000 in
theorem cm_M_putNumber (l : Launch) {av : List AV} {m : Mm} {r : Mm} (h0 : c_M_putNumber av m = some r) : ∃ (k q : Nat) (av' : List AV) (ci : Nat) (fs : List (Nat × Nat × Nat × Nat)) (z : vw_C), av = .inr (.inr (k, some q)) :: av' ∧ av'.length = 1 ∧ k ≠ 0 ∧ KT[k]? = some (.inl (ci, fs)) ∧ CL[ci]? = some z ∧ z.1 = "StreamTransportModel" ∧ ab_nos av' ∧ ab_Met l KT CL y_M_putNumber (Cond.code y_M_putNumber prog_12_method_16_code 3 none :: ab_gW) 1 21 none av m none r := by
  obtain ⟨v0, v1, hav, h⟩ := c_M_putNumber_inv h0
  rw [r_M_putNumber_eq] at h
  have hmo : ab_mo m r := ab_kp_mo (kp_M_putNumber h0)
  subst hav
  exact ⟨_, _, _, _, _, _, rfl, rfl, by decide, rfl, rfl, rfl, (by intro v hv q e; subst e; simp at hv), ab_met (by decide +kernel) KT_0 KT_nd KT_k3 E_M_putNumber (cl_M_putNumber l) hmo (Nat.le_of_ble_eq_true rfl) (ab_rV_inv h) (fun v hv => by cases hv)⟩
/-! StreamTransportModel.fits(I)Z -/
def y_M_fits : MethodName := ⟨"StreamTransportModel", "fits", "(I)Z"⟩
def t_M_fits (pc : Nat) : Option Ent :=
  bif Nat.blt pc 8 then
    (bif Nat.blt pc 4 then
      (bif Nat.blt pc 1 then
        (bif Nat.beq pc 0 then some (.aload_n 0, 0, 0, 0, 0) else none)
      else
        bif Nat.beq pc 1 then some (.getfield 162, 10, 44, 0, 0) else none)
    else
      bif Nat.blt pc 5 then
        (bif Nat.beq pc 4 then some (.iload_n 1, 1, 0, 0, 0) else none)
      else
        bif Nat.blt pc 6 then
          (bif Nat.beq pc 5 then some (.iadd, 0, 0, 0, 0) else none)
        else
          bif Nat.beq pc 6 then some (.bipush 37, 0, 0, 0, 37) else none)
  else
    bif Nat.blt pc 12 then
      (bif Nat.blt pc 11 then
        (bif Nat.beq pc 8 then some (.if_icmp .gt (7), 15, 0, 0, 0) else none)
      else
        bif Nat.beq pc 11 then some (.iconst 1, 0, 0, 0, 1) else none)
    else
      bif Nat.blt pc 15 then
        (bif Nat.beq pc 12 then some (.goto 4, 16, 0, 0, 0) else none)
      else
        bif Nat.blt pc 16 then
          (bif Nat.beq pc 15 then some (.iconst 0, 0, 0, 0, 0) else none)
        else
          bif Nat.beq pc 16 then some (.ireturn, 0, 0, 1, 0) else none
def i_M_fits : Nat → Option Ent := ab_tab 17 t_M_fits
def h_M_fits (pc : Nat) : Nat × List Bool := (0, [])
def s_M_fits (pc : Nat) : List (Int32 × Nat) × Nat := ([], 0)
noncomputable def eV_M_fits : Nat → List AV → Mm → Option Mm := ab_ev []
noncomputable def eI_M_fits : Nat → List AV → Mm → Option (Int32 × Mm) := ab_ev []
noncomputable def b_M_fits_0 (f : Nat) (v0 : Nat) (v1 : Int32) (m : Mm) : Option Rs := ab_ex KT none s_M_fits eV_M_fits eI_M_fits i_M_fits h_M_fits f 0 [some (.inr (.inr (28, some v0))), some (.inl v1)] [] m
set_option maxRecDepth 100000 in
set_option maxHeartbeats 4000000 in
theorem b_M_fits_0_eq (f : Nat) (v0 : Nat) (v1 : Int32) (m : Mm) : b_M_fits_0 (f + 1) v0 v1 m =
    if (37 : Int32) < ((m.1 125 v0 0) + v1) then
      (ab_bo (0 : Int32)).bind fun y1 => some (.inl (some (.inl y1), m))
    else
      (ab_bo (1 : Int32)).bind fun y2 => some (.inl (some (.inl y2), m)) := rfl
noncomputable def r_M_fits : Nat → Int32 → Mm → Option (Int32 × Mm) := ab_seal fun v0 v1 m => ab_rI (b_M_fits_0 50000 v0 v1 m)
theorem r_M_fits_eq (v0 : Nat) (v1 : Int32) (m : Mm) : r_M_fits v0 v1 m = ab_rI (b_M_fits_0 50000 v0 v1 m) := by
  unfold r_M_fits
  rw [ab_seal_eq]
noncomputable def c_M_fits : List AV → Mm → Option (Int32 × Mm) := fun av m => match av with
  | [.inr (.inr (kv0, ov0)), .inl v1] => if kv0 = 28 then (ov0.bind fun v0 => r_M_fits v0 v1 m) else none
  | _ => none
theorem c_M_fits_inv {av : List AV} {m : Mm} {r : Int32 × Mm} (h : c_M_fits av m = some r) : ∃ (v0 : Nat) (v1 : Int32), av = [.inr (.inr (28, some v0)), .inl v1] ∧ r_M_fits v0 v1 m = some r := by
  unfold c_M_fits at h
  split at h
  · rename_i kv0 ov0 v1
    by_cases hkv0 : kv0 = 28
    case neg => rw [if_neg hkv0] at h; cases h
    rw [if_pos hkv0] at h
    subst hkv0
    obtain ⟨v0, hev0, h⟩ := Option.bind_eq_some_iff.mp h
    subst hev0
    exact ⟨v0, v1, rfl, h⟩
  · cases h
def cs_M_fits : List Nat := []
set_option maxRecDepth 100000 in
theorem E_M_fits : ∀ (pc : Nat) (q : Ent), i_M_fits pc = some q → ab_E KT CL ab_gW "StreamTransportModel" "fits" (some .boolean) prog_12_method_17_code s_M_fits 2 pc q.1 q.2.1 q.2.2.1 q.2.2.2.1 q.2.2.2.2 := fun pc q hq =>
  ab_Eb_ok lc_M lj_M fl_M (fpn_M "fits") nw_M na_M nq_M (ab_tab_all (t := t_M_fits) (chk := fun pc q => ab_Eb (some .boolean) prog_12_method_17_code s_M_fits 2 LC_M LJ_M FL_M FPn_M NW_M NA_M NQ_M pc q.1 q.2.1 q.2.2.1 q.2.2.2.1 q.2.2.2.2) (by decide +kernel) hq)
set_option maxRecDepth 100000 in
theorem kp_M_fits {av : List AV} {m : Mm} {r : Int32 × Mm} (h : c_M_fits av m = some r) : ab_kp m r.2 := by
  obtain ⟨v0, v1, -, h⟩ := c_M_fits_inv h
  rw [r_M_fits_eq] at h
  have hV : ∀ a av m m', eV_M_fits a av m = some m' → ab_kp m m' := ab_ev_all (P := fun _ m r => ab_kp m r) [] (fun q hq => by cases hq)
  have hI : ∀ a av m q, eI_M_fits a av m = some q → ab_kp m q.2 := ab_ev_all (P := fun _ (m : Mm) (r : Int32 × Mm) => ab_kp m r.2) [] (fun q hq => by cases hq)
  exact ab_kprel (ρ := .inl (some (.inl r.1), r.2)) (ab_tab_isn (t := t_M_fits) (by decide +kernel)) hV hI (ab_rI_inv h)
set_option maxRecDepth 100000 in
theorem cl_M_fits (l : Launch) : ∀ (pc : Nat) (q : Ent), i_M_fits pc = some q → ab_inv q.1 = true → ab_CR l KT CL none ab_gW "StreamTransportModel" prog_12_method_17_code 2 0 0 eV_M_fits eI_M_fits pc q := by
  intro pc q hq hi
  have hm : pc ∈ cs_M_fits := ab_tab_cs (t := t_M_fits) (by decide +kernel) hq hi
  cases hm
theorem cw_M_fits : ab_cw y_M_fits prog_12_method_17_code 2 1 (some .boolean) := ⟨ab_gW_in 1220 (by decide +kernel) rfl, ab_gW_in 71 (by decide +kernel) rfl, by decide +kernel, by decide +kernel, by decide +kernel⟩
theorem is_M_fits : Cond.instanceMethod y_M_fits ∈ ab_gW := ab_gW_in 1219 (by decide +kernel) rfl
theorem sl_M_fits : Cond.selects "StreamTransportModel" y_M_fits y_M_fits ∈ ab_gW := ab_gW_in 40 (by decide +kernel) rfl
set_option maxRecDepth 100000 in
theorem cm_M_fits (l : Launch) {av : List AV} {m : Mm} {r : Int32 × Mm} (h0 : c_M_fits av m = some r) : ∃ (k q : Nat) (av' : List AV) (ci : Nat) (fs : List (Nat × Nat × Nat × Nat)) (z : vw_C), av = .inr (.inr (k, some q)) :: av' ∧ av'.length = 1 ∧ k ≠ 0 ∧ KT[k]? = some (.inl (ci, fs)) ∧ CL[ci]? = some z ∧ z.1 = "StreamTransportModel" ∧ ab_nos av' ∧ ab_Met l KT CL y_M_fits (Cond.code y_M_fits prog_12_method_17_code 2 (some .boolean) :: ab_gW) 0 0 none av m (some (.inl r.1)) r.2 := by
  obtain ⟨v0, v1, hav, h⟩ := c_M_fits_inv h0
  rw [r_M_fits_eq] at h
  have hmo : ab_mo m r.2 := ab_kp_mo (kp_M_fits h0)
  subst hav
  exact ⟨_, _, _, _, _, _, rfl, rfl, by decide, rfl, rfl, rfl, (by intro v hv q e; subst e; simp at hv), ab_met (by decide +kernel) KT_0 KT_nd KT_k3 E_M_fits (cl_M_fits l) hmo (Nat.le_of_ble_eq_true rfl) (ab_rI_inv h) (fun v hv => by cases hv; exact ⟨_, rfl⟩)⟩
/-! StreamTransportModel.isSeen(II)Z -/
def y_M_isSeen : MethodName := ⟨"StreamTransportModel", "isSeen", "(II)Z"⟩
def t_M_isSeen (pc : Nat) : Option Ent :=
  bif Nat.blt pc 19 then
    (bif Nat.blt pc 12 then
      (bif Nat.blt pc 5 then
        (bif Nat.blt pc 1 then
          (bif Nat.beq pc 0 then some (.iload_n 2, 2, 0, 0, 0) else none)
        else
          bif Nat.blt pc 4 then
            (bif Nat.beq pc 1 then some (.ifCond .lt (33), 34, 0, 0, 0) else none)
          else
            bif Nat.beq pc 4 then some (.aload_n 0, 0, 0, 0, 0) else none)
      else
        bif Nat.blt pc 8 then
          (bif Nat.beq pc 5 then some (.getfield 95, 10, 32, 1, 0) else none)
        else
          bif Nat.blt pc 11 then
            (bif Nat.beq pc 8 then some (.sipush 320, 0, 0, 0, 320) else none)
          else
            bif Nat.beq pc 11 then some (.iload_n 1, 1, 0, 0, 0) else none)
    else
      bif Nat.blt pc 16 then
        (bif Nat.blt pc 13 then
          (bif Nat.beq pc 12 then some (.imul, 0, 0, 0, 0) else none)
        else
          bif Nat.blt pc 14 then
            (bif Nat.beq pc 13 then some (.iload_n 2, 2, 0, 0, 0) else none)
          else
            bif Nat.beq pc 14 then some (.bipush 32, 0, 0, 0, 32) else none)
      else
        bif Nat.blt pc 17 then
          (bif Nat.beq pc 16 then some (.idiv, 0, 0, 0, 0) else none)
        else
          bif Nat.blt pc 18 then
            (bif Nat.beq pc 17 then some (.iadd, 0, 0, 0, 0) else none)
          else
            bif Nat.beq pc 18 then some (.iaload, 0, 0, 0, 0) else none)
  else
    bif Nat.blt pc 26 then
      (bif Nat.blt pc 23 then
        (bif Nat.blt pc 20 then
          (bif Nat.beq pc 19 then some (.iload_n 2, 2, 0, 0, 0) else none)
        else
          bif Nat.blt pc 22 then
            (bif Nat.beq pc 20 then some (.bipush 32, 0, 0, 0, 32) else none)
          else
            bif Nat.beq pc 22 then some (.irem, 0, 0, 0, 0) else none)
      else
        bif Nat.blt pc 24 then
          (bif Nat.beq pc 23 then some (.ishr, 0, 0, 0, 0) else none)
        else
          bif Nat.blt pc 25 then
            (bif Nat.beq pc 24 then some (.iconst 1, 0, 0, 0, 1) else none)
          else
            bif Nat.beq pc 25 then some (.iand, 0, 0, 0, 0) else none)
    else
      bif Nat.blt pc 31 then
        (bif Nat.blt pc 27 then
          (bif Nat.beq pc 26 then some (.iconst 1, 0, 0, 0, 1) else none)
        else
          bif Nat.blt pc 30 then
            (bif Nat.beq pc 27 then some (.if_icmp .ne (7), 34, 0, 0, 0) else none)
          else
            bif Nat.beq pc 30 then some (.iconst 1, 0, 0, 0, 1) else none)
      else
        bif Nat.blt pc 34 then
          (bif Nat.beq pc 31 then some (.goto 4, 35, 0, 0, 0) else none)
        else
          bif Nat.blt pc 35 then
            (bif Nat.beq pc 34 then some (.iconst 0, 0, 0, 0, 0) else none)
          else
            bif Nat.beq pc 35 then some (.ireturn, 0, 0, 1, 0) else none
def i_M_isSeen : Nat → Option Ent := ab_tab 36 t_M_isSeen
def h_M_isSeen (pc : Nat) : Nat × List Bool := (0, [])
def s_M_isSeen (pc : Nat) : List (Int32 × Nat) × Nat := ([], 0)
noncomputable def eV_M_isSeen : Nat → List AV → Mm → Option Mm := ab_ev []
noncomputable def eI_M_isSeen : Nat → List AV → Mm → Option (Int32 × Mm) := ab_ev []
noncomputable def b_M_isSeen_0 (f : Nat) (v0 : Nat) (v1 : Int32) (v2 : Int32) (m : Mm) : Option Rs := ab_ex KT none s_M_isSeen eV_M_isSeen eI_M_isSeen i_M_isSeen h_M_isSeen f 0 [some (.inr (.inr (28, some v0))), some (.inl v1), some (.inl v2)] [] m
set_option maxRecDepth 100000 in
set_option maxHeartbeats 4000000 in
theorem b_M_isSeen_0_eq (f : Nat) (v0 : Nat) (v1 : Int32) (v2 : Int32) (m : Mm) : b_M_isSeen_0 (f + 1) v0 v1 v2 m =
    if v2 < 0 then
      (ab_bo (0 : Int32)).bind fun y1 => some (.inl (some (.inl y1), m))
    else
      if (32 : Int32) = 0 then none else
      (ab_ix (((320 : Int32) * v1) + (v2 / (32 : Int32))) 640).bind fun i2 =>
      if (32 : Int32) = 0 then none else
      if (((m.1 161 (v0 + 29) i2) >>> ((v2 - v2 / (32 : Int32) * (32 : Int32)) &&& 31)) &&& (1 : Int32)) = (1 : Int32) then
        (ab_bo (1 : Int32)).bind fun y4 => some (.inl (some (.inl y4), m))
      else
        (ab_bo (0 : Int32)).bind fun y3 => some (.inl (some (.inl y3), m)) := rfl
noncomputable def r_M_isSeen : Nat → Int32 → Int32 → Mm → Option (Int32 × Mm) := ab_seal fun v0 v1 v2 m => ab_rI (b_M_isSeen_0 50000 v0 v1 v2 m)
theorem r_M_isSeen_eq (v0 : Nat) (v1 : Int32) (v2 : Int32) (m : Mm) : r_M_isSeen v0 v1 v2 m = ab_rI (b_M_isSeen_0 50000 v0 v1 v2 m) := by
  unfold r_M_isSeen
  rw [ab_seal_eq]
noncomputable def c_M_isSeen : List AV → Mm → Option (Int32 × Mm) := fun av m => match av with
  | [.inr (.inr (kv0, ov0)), .inl v1, .inl v2] => if kv0 = 28 then (ov0.bind fun v0 => r_M_isSeen v0 v1 v2 m) else none
  | _ => none
theorem c_M_isSeen_inv {av : List AV} {m : Mm} {r : Int32 × Mm} (h : c_M_isSeen av m = some r) : ∃ (v0 : Nat) (v1 : Int32) (v2 : Int32), av = [.inr (.inr (28, some v0)), .inl v1, .inl v2] ∧ r_M_isSeen v0 v1 v2 m = some r := by
  unfold c_M_isSeen at h
  split at h
  · rename_i kv0 ov0 v1 v2
    by_cases hkv0 : kv0 = 28
    case neg => rw [if_neg hkv0] at h; cases h
    rw [if_pos hkv0] at h
    subst hkv0
    obtain ⟨v0, hev0, h⟩ := Option.bind_eq_some_iff.mp h
    subst hev0
    exact ⟨v0, v1, v2, rfl, h⟩
  · cases h
def cs_M_isSeen : List Nat := []
set_option maxRecDepth 100000 in
theorem E_M_isSeen : ∀ (pc : Nat) (q : Ent), i_M_isSeen pc = some q → ab_E KT CL ab_gW "StreamTransportModel" "isSeen" (some .boolean) prog_12_method_18_code s_M_isSeen 3 pc q.1 q.2.1 q.2.2.1 q.2.2.2.1 q.2.2.2.2 := fun pc q hq =>
  ab_Eb_ok lc_M lj_M fl_M (fpn_M "isSeen") nw_M na_M nq_M (ab_tab_all (t := t_M_isSeen) (chk := fun pc q => ab_Eb (some .boolean) prog_12_method_18_code s_M_isSeen 3 LC_M LJ_M FL_M FPn_M NW_M NA_M NQ_M pc q.1 q.2.1 q.2.2.1 q.2.2.2.1 q.2.2.2.2) (by decide +kernel) hq)
set_option maxRecDepth 100000 in
theorem kp_M_isSeen {av : List AV} {m : Mm} {r : Int32 × Mm} (h : c_M_isSeen av m = some r) : ab_kp m r.2 := by
  obtain ⟨v0, v1, v2, -, h⟩ := c_M_isSeen_inv h
  rw [r_M_isSeen_eq] at h
  have hV : ∀ a av m m', eV_M_isSeen a av m = some m' → ab_kp m m' := ab_ev_all (P := fun _ m r => ab_kp m r) [] (fun q hq => by cases hq)
  have hI : ∀ a av m q, eI_M_isSeen a av m = some q → ab_kp m q.2 := ab_ev_all (P := fun _ (m : Mm) (r : Int32 × Mm) => ab_kp m r.2) [] (fun q hq => by cases hq)
  exact ab_kprel (ρ := .inl (some (.inl r.1), r.2)) (ab_tab_isn (t := t_M_isSeen) (by decide +kernel)) hV hI (ab_rI_inv h)
set_option maxRecDepth 100000 in
theorem cl_M_isSeen (l : Launch) : ∀ (pc : Nat) (q : Ent), i_M_isSeen pc = some q → ab_inv q.1 = true → ab_CR l KT CL none ab_gW "StreamTransportModel" prog_12_method_18_code 3 0 0 eV_M_isSeen eI_M_isSeen pc q := by
  intro pc q hq hi
  have hm : pc ∈ cs_M_isSeen := ab_tab_cs (t := t_M_isSeen) (by decide +kernel) hq hi
  cases hm
theorem cw_M_isSeen : ab_cw y_M_isSeen prog_12_method_18_code 3 2 (some .boolean) := ⟨ab_gW_in 1212 (by decide +kernel) rfl, ab_gW_in 71 (by decide +kernel) rfl, by decide +kernel, by decide +kernel, by decide +kernel⟩
theorem is_M_isSeen : Cond.instanceMethod y_M_isSeen ∈ ab_gW := ab_gW_in 1211 (by decide +kernel) rfl
theorem sl_M_isSeen : Cond.selects "StreamTransportModel" y_M_isSeen y_M_isSeen ∈ ab_gW := ab_gW_in 38 (by decide +kernel) rfl
set_option maxRecDepth 100000 in
theorem cm_M_isSeen (l : Launch) {av : List AV} {m : Mm} {r : Int32 × Mm} (h0 : c_M_isSeen av m = some r) : ∃ (k q : Nat) (av' : List AV) (ci : Nat) (fs : List (Nat × Nat × Nat × Nat)) (z : vw_C), av = .inr (.inr (k, some q)) :: av' ∧ av'.length = 2 ∧ k ≠ 0 ∧ KT[k]? = some (.inl (ci, fs)) ∧ CL[ci]? = some z ∧ z.1 = "StreamTransportModel" ∧ ab_nos av' ∧ ab_Met l KT CL y_M_isSeen (Cond.code y_M_isSeen prog_12_method_18_code 3 (some .boolean) :: ab_gW) 0 0 none av m (some (.inl r.1)) r.2 := by
  obtain ⟨v0, v1, v2, hav, h⟩ := c_M_isSeen_inv h0
  rw [r_M_isSeen_eq] at h
  have hmo : ab_mo m r.2 := ab_kp_mo (kp_M_isSeen h0)
  subst hav
  exact ⟨_, _, _, _, _, _, rfl, rfl, by decide, rfl, rfl, rfl, (by intro v hv q e; subst e; simp at hv), ab_met (by decide +kernel) KT_0 KT_nd KT_k3 E_M_isSeen (cl_M_isSeen l) hmo (Nat.le_of_ble_eq_true rfl) (ab_rI_inv h) (fun v hv => by cases hv; exact ⟨_, rfl⟩)⟩
/-! StreamTransportModel.write(IIIJ)I -/
def y_M_write : MethodName := ⟨"StreamTransportModel", "write", "(IIIJ)I"⟩
def t_M_write (pc : Nat) : Option Ent :=
  bif Nat.blt pc 80 then
    (bif Nat.blt pc 37 then
      (bif Nat.blt pc 20 then
        (bif Nat.blt pc 7 then
          (bif Nat.blt pc 2 then
            (bif Nat.blt pc 1 then
              (bif Nat.beq pc 0 then some (.aload_n 0, 0, 0, 0, 0) else none)
            else
              bif Nat.beq pc 1 then some (.iconst 0, 0, 0, 0, 0) else none)
          else
            bif Nat.blt pc 5 then
              (bif Nat.beq pc 2 then some (.putfield 135, 10, 3, 0, 0) else none)
            else
              bif Nat.blt pc 6 then
                (bif Nat.beq pc 5 then some (.iload_n 1, 1, 0, 0, 0) else none)
              else
                bif Nat.beq pc 6 then some (.iload_n 2, 2, 0, 0, 0) else none)
        else
          bif Nat.blt pc 14 then
            (bif Nat.blt pc 10 then
              (bif Nat.beq pc 7 then some (.invokestatic 142, 105, 2, 1, 0) else none)
            else
              bif Nat.blt pc 13 then
                (bif Nat.beq pc 10 then some (.ifCond .eq (13), 23, 0, 0, 0) else none)
              else
                bif Nat.beq pc 13 then some (.iload_n 3, 3, 0, 0, 0) else none)
          else
            bif Nat.blt pc 15 then
              (bif Nat.beq pc 14 then some (.iconst 1, 0, 0, 0, 1) else none)
            else
              bif Nat.blt pc 17 then
                (bif Nat.beq pc 15 then some (.bipush 8, 0, 0, 0, 8) else none)
              else
                bif Nat.beq pc 17 then some (.invokestatic 138, 104, 3, 1, 0) else none)
      else
        bif Nat.blt pc 30 then
          (bif Nat.blt pc 25 then
            (bif Nat.blt pc 23 then
              (bif Nat.beq pc 20 then some (.ifCond .ne (9), 29, 0, 0, 0) else none)
            else
              bif Nat.blt pc 24 then
                (bif Nat.beq pc 23 then some (.aload_n 0, 0, 0, 0, 0) else none)
              else
                bif Nat.beq pc 24 then some (.iconst 1, 0, 0, 0, 1) else none)
          else
            bif Nat.blt pc 28 then
              (bif Nat.beq pc 25 then some (.invokevirtual 146, 103, 2, 1, 0) else none)
            else
              bif Nat.blt pc 29 then
                (bif Nat.beq pc 28 then some (.ireturn, 0, 0, 0, 0) else none)
              else
                bif Nat.beq pc 29 then some (.iconst 4, 0, 0, 0, 4) else none)
        else
          bif Nat.blt pc 33 then
            (bif Nat.blt pc 31 then
              (bif Nat.beq pc 30 then some (.iload_n 1, 1, 0, 0, 0) else none)
            else
              bif Nat.blt pc 32 then
                (bif Nat.beq pc 31 then some (.imul, 0, 0, 0, 0) else none)
              else
                bif Nat.beq pc 32 then some (.iload_n 2, 2, 0, 0, 0) else none)
          else
            bif Nat.blt pc 34 then
              (bif Nat.beq pc 33 then some (.iadd, 0, 0, 0, 0) else none)
            else
              bif Nat.blt pc 36 then
                (bif Nat.beq pc 34 then some (.istore 6, 6, 0, 0, 0) else none)
              else
                bif Nat.beq pc 36 then some (.aload_n 0, 0, 0, 0, 0) else none)
    else
      bif Nat.blt pc 60 then
        (bif Nat.blt pc 47 then
          (bif Nat.blt pc 42 then
            (bif Nat.blt pc 40 then
              (bif Nat.beq pc 37 then some (.getfield 31, 10, 11, 1, 0) else none)
            else
              bif Nat.beq pc 40 then some (.iload 6, 6, 0, 0, 0) else none)
          else
            bif Nat.blt pc 43 then
              (bif Nat.beq pc 42 then some (.baload, 0, 0, 0, 0) else none)
            else
              bif Nat.blt pc 46 then
                (bif Nat.beq pc 43 then some (.ifCond .ne (36), 79, 0, 0, 0) else none)
              else
                bif Nat.beq pc 46 then some (.aload_n 0, 0, 0, 0, 0) else none)
        else
          bif Nat.blt pc 53 then
            (bif Nat.blt pc 50 then
              (bif Nat.beq pc 47 then some (.getfield 35, 10, 12, 1, 0) else none)
            else
              bif Nat.blt pc 52 then
                (bif Nat.beq pc 50 then some (.iload 6, 6, 0, 0, 0) else none)
              else
                bif Nat.beq pc 52 then some (.baload, 0, 0, 0, 0) else none)
          else
            bif Nat.blt pc 56 then
              (bif Nat.beq pc 53 then some (.ifCond .ne (26), 79, 0, 0, 0) else none)
            else
              bif Nat.blt pc 57 then
                (bif Nat.beq pc 56 then some (.aload_n 0, 0, 0, 0, 0) else none)
              else
                bif Nat.beq pc 57 then some (.getfield 74, 10, 25, 1, 0) else none)
      else
        bif Nat.blt pc 71 then
          (bif Nat.blt pc 65 then
            (bif Nat.blt pc 61 then
              (bif Nat.beq pc 60 then some (.iload_n 1, 1, 0, 0, 0) else none)
            else
              bif Nat.blt pc 62 then
                (bif Nat.beq pc 61 then some (.iaload, 0, 0, 0, 0) else none)
              else
                bif Nat.beq pc 62 then some (.ifCond .ge (17), 79, 0, 0, 0) else none)
          else
            bif Nat.blt pc 66 then
              (bif Nat.beq pc 65 then some (.aload_n 0, 0, 0, 0, 0) else none)
            else
              bif Nat.blt pc 69 then
                (bif Nat.beq pc 66 then some (.getfield 16, 10, 6, 1, 0) else none)
              else
                bif Nat.beq pc 69 then some (.iload 6, 6, 0, 0, 0) else none)
        else
          bif Nat.blt pc 74 then
            (bif Nat.blt pc 72 then
              (bif Nat.beq pc 71 then some (.iaload, 0, 0, 0, 0) else none)
            else
              bif Nat.blt pc 73 then
                (bif Nat.beq pc 72 then some (.iload_n 3, 3, 0, 0, 0) else none)
              else
                bif Nat.beq pc 73 then some (.iadd, 0, 0, 0, 0) else none)
          else
            bif Nat.blt pc 76 then
              (bif Nat.beq pc 74 then some (.bipush 64, 0, 0, 0, 64) else none)
            else
              bif Nat.blt pc 79 then
                (bif Nat.beq pc 76 then some (.if_icmp .le (9), 85, 0, 0, 0) else none)
              else
                bif Nat.beq pc 79 then some (.aload_n 0, 0, 0, 0, 0) else none)
  else
    bif Nat.blt pc 120 then
      (bif Nat.blt pc 100 then
        (bif Nat.blt pc 88 then
          (bif Nat.blt pc 84 then
            (bif Nat.blt pc 81 then
              (bif Nat.beq pc 80 then some (.iconst 2, 0, 0, 0, 2) else none)
            else
              bif Nat.beq pc 81 then some (.invokevirtual 146, 103, 2, 1, 0) else none)
          else
            bif Nat.blt pc 85 then
              (bif Nat.beq pc 84 then some (.ireturn, 0, 0, 0, 0) else none)
            else
              bif Nat.blt pc 86 then
                (bif Nat.beq pc 85 then some (.iconst 0, 0, 0, 0, 0) else none)
              else
                bif Nat.beq pc 86 then some (.istore 7, 7, 0, 0, 0) else none)
        else
          bif Nat.blt pc 94 then
            (bif Nat.blt pc 90 then
              (bif Nat.beq pc 88 then some (.iload 7, 7, 0, 0, 0) else none)
            else
              bif Nat.blt pc 91 then
                (bif Nat.beq pc 90 then some (.iload_n 3, 3, 0, 0, 0) else none)
              else
                bif Nat.beq pc 91 then some (.if_icmp .ge (43), 134, 0, 0, 0) else none)
          else
            bif Nat.blt pc 95 then
              (bif Nat.beq pc 94 then some (.aload_n 0, 0, 0, 0, 0) else none)
            else
              bif Nat.blt pc 98 then
                (bif Nat.beq pc 95 then some (.getfield 7, 10, 4, 1, 0) else none)
              else
                bif Nat.beq pc 98 then some (.bipush 64, 0, 0, 0, 64) else none)
      else
        bif Nat.blt pc 110 then
          (bif Nat.blt pc 104 then
            (bif Nat.blt pc 102 then
              (bif Nat.beq pc 100 then some (.iload 6, 6, 0, 0, 0) else none)
            else
              bif Nat.blt pc 103 then
                (bif Nat.beq pc 102 then some (.imul, 0, 0, 0, 0) else none)
              else
                bif Nat.beq pc 103 then some (.aload_n 0, 0, 0, 0, 0) else none)
          else
            bif Nat.blt pc 107 then
              (bif Nat.beq pc 104 then some (.getfield 16, 10, 6, 1, 0) else none)
            else
              bif Nat.blt pc 109 then
                (bif Nat.beq pc 107 then some (.iload 6, 6, 0, 0, 0) else none)
              else
                bif Nat.beq pc 109 then some (.iaload, 0, 0, 0, 0) else none)
        else
          bif Nat.blt pc 114 then
            (bif Nat.blt pc 111 then
              (bif Nat.beq pc 110 then some (.iadd, 0, 0, 0, 0) else none)
            else
              bif Nat.blt pc 113 then
                (bif Nat.beq pc 111 then some (.iload 7, 7, 0, 0, 0) else none)
              else
                bif Nat.beq pc 113 then some (.iadd, 0, 0, 0, 0) else none)
          else
            bif Nat.blt pc 116 then
              (bif Nat.beq pc 114 then some (.lload 4, 4, 0, 0, 0) else none)
            else
              bif Nat.blt pc 118 then
                (bif Nat.beq pc 116 then some (.bipush 8, 0, 0, 0, 8) else none)
              else
                bif Nat.beq pc 118 then some (.iload 7, 7, 0, 0, 0) else none)
    else
      bif Nat.blt pc 140 then
        (bif Nat.blt pc 127 then
          (bif Nat.blt pc 122 then
            (bif Nat.blt pc 121 then
              (bif Nat.beq pc 120 then some (.imul, 0, 0, 0, 0) else none)
            else
              bif Nat.beq pc 121 then some (.lshr, 0, 0, 0, 0) else none)
          else
            bif Nat.blt pc 125 then
              (bif Nat.beq pc 122 then some (.ldc2_w 150, 255, 0, 0, 0) else none)
            else
              bif Nat.blt pc 126 then
                (bif Nat.beq pc 125 then some (.land, 0, 0, 0, 0) else none)
              else
                bif Nat.beq pc 126 then some (.l2i, 0, 0, 0, 0) else none)
        else
          bif Nat.blt pc 134 then
            (bif Nat.blt pc 128 then
              (bif Nat.beq pc 127 then some (.iastore, 0, 0, 0, 0) else none)
            else
              bif Nat.blt pc 131 then
                (bif Nat.beq pc 128 then some (.iinc 7 1, 7, 0, 0, 1) else none)
              else
                bif Nat.beq pc 131 then some (.goto (-43), 88, 0, 0, 0) else none)
          else
            bif Nat.blt pc 135 then
              (bif Nat.beq pc 134 then some (.aload_n 0, 0, 0, 0, 0) else none)
            else
              bif Nat.blt pc 138 then
                (bif Nat.beq pc 135 then some (.getfield 16, 10, 6, 1, 0) else none)
              else
                bif Nat.beq pc 138 then some (.iload 6, 6, 0, 0, 0) else none)
      else
        bif Nat.blt pc 149 then
          (bif Nat.blt pc 146 then
            (bif Nat.blt pc 141 then
              (bif Nat.beq pc 140 then some (.aload_n 0, 0, 0, 0, 0) else none)
            else
              bif Nat.blt pc 144 then
                (bif Nat.beq pc 141 then some (.getfield 16, 10, 6, 1, 0) else none)
              else
                bif Nat.beq pc 144 then some (.iload 6, 6, 0, 0, 0) else none)
          else
            bif Nat.blt pc 147 then
              (bif Nat.beq pc 146 then some (.iaload, 0, 0, 0, 0) else none)
            else
              bif Nat.blt pc 148 then
                (bif Nat.beq pc 147 then some (.iload_n 3, 3, 0, 0, 0) else none)
              else
                bif Nat.beq pc 148 then some (.iadd, 0, 0, 0, 0) else none)
        else
          bif Nat.blt pc 154 then
            (bif Nat.blt pc 150 then
              (bif Nat.beq pc 149 then some (.iastore, 0, 0, 0, 0) else none)
            else
              bif Nat.blt pc 151 then
                (bif Nat.beq pc 150 then some (.aload_n 0, 0, 0, 0, 0) else none)
              else
                bif Nat.beq pc 151 then some (.getfield 16, 10, 6, 1, 0) else none)
          else
            bif Nat.blt pc 156 then
              (bif Nat.beq pc 154 then some (.iload 6, 6, 0, 0, 0) else none)
            else
              bif Nat.blt pc 157 then
                (bif Nat.beq pc 156 then some (.iaload, 0, 0, 0, 0) else none)
              else
                bif Nat.beq pc 157 then some (.ireturn, 0, 0, 0, 0) else none
def i_M_write : Nat → Option Ent := ab_tab 158 t_M_write
def h_M_write (pc : Nat) : Nat × List Bool := bif Nat.beq pc 23 then (1, [true, false, false, false, false, false, false, false]) else bif Nat.beq pc 79 then (1, [true, false, false, false, false, false, false, false]) else bif Nat.beq pc 88 then (1, [true, false, false, true, true, false, true, true]) else (0, [])
def s_M_write (pc : Nat) : List (Int32 × Nat) × Nat := ([], 0)
noncomputable def eV_M_write : Nat → List AV → Mm → Option Mm := ab_ev []
noncomputable def eI_M_write : Nat → List AV → Mm → Option (Int32 × Mm) := ab_ev [(105, c_M_isStream), (104, c_M_in), (103, c_M_fails)]
noncomputable def b_M_write_0 (f : Nat) (v0 : Nat) (v1 : Int32) (v2 : Int32) (v3 : Int32) (v4 : Int64) (m : Mm) : Option Rs := ab_ex KT none s_M_write eV_M_write eI_M_write i_M_write h_M_write f 0 [some (.inr (.inr (28, some v0))), some (.inl v1), some (.inl v2), some (.inl v3), some (.inr (.inl v4)), none, none, none] [] m
noncomputable def b_M_write_23 (f : Nat) (v0 : Nat) (m : Mm) : Option Rs := ab_ex KT none s_M_write eV_M_write eI_M_write i_M_write h_M_write f 23 [some (.inr (.inr (28, some v0))), none, none, none, none, none, none, none] [] m
noncomputable def b_M_write_79 (f : Nat) (v0 : Nat) (m : Mm) : Option Rs := ab_ex KT none s_M_write eV_M_write eI_M_write i_M_write h_M_write f 79 [some (.inr (.inr (28, some v0))), none, none, none, none, none, none, none] [] m
noncomputable def b_M_write_88 (f : Nat) (v0 : Nat) (v3 : Int32) (v4 : Int64) (v6 : Int32) (v7 : Int32) (m : Mm) : Option Rs := ab_ex KT none s_M_write eV_M_write eI_M_write i_M_write h_M_write f 88 [some (.inr (.inr (28, some v0))), none, none, some (.inl v3), some (.inr (.inl v4)), none, some (.inl v6), some (.inl v7)] [] m
set_option maxRecDepth 100000 in
set_option maxHeartbeats 4000000 in
theorem b_M_write_0_eq (f : Nat) (v0 : Nat) (v1 : Int32) (v2 : Int32) (v3 : Int32) (v4 : Int64) (m : Mm) : b_M_write_0 (f + 1) v0 v1 v2 v3 v4 m =
    ab_let (ab_uI m 84 v0 0 (0 : Int32)) fun m1 =>
    (r_M_isStream v1 v2 m1).bind fun z2 =>
    if z2.1 = 0 then
      b_M_write_23 f v0 z2.2
    else
      (r_M_in v3 (1 : Int32) (8 : Int32) z2.2).bind fun z3 =>
      if z3.1 = 0 then
        b_M_write_23 f v0 z3.2
      else
        ab_let ((((4 : Int32) * v1) + v2)) fun x4 =>
        (ab_ix x4 8).bind fun i5 =>
        if (z3.2.1 140 (v0 + 8) i5) = 0 then
          (ab_ix x4 8).bind fun i6 =>
          if (z3.2.1 141 (v0 + 9) i6) = 0 then
            (ab_ix v1 2).bind fun i7 =>
            if 0 ≤ (z3.2.1 154 (v0 + 22) i7) then
              b_M_write_79 f v0 z3.2
            else
              (ab_ix x4 8).bind fun i8 =>
              if ((z3.2.1 135 (v0 + 3) i8) + v3) ≤ (64 : Int32) then
                b_M_write_88 f v0 v3 v4 x4 (0 : Int32) z3.2
              else
                b_M_write_79 f v0 z3.2
          else
            b_M_write_79 f v0 z3.2
        else
          b_M_write_79 f v0 z3.2 := rfl
set_option maxRecDepth 100000 in
set_option maxHeartbeats 4000000 in
theorem b_M_write_23_eq (f : Nat) (v0 : Nat) (m : Mm) : b_M_write_23 (f + 1) v0 m =
    (r_M_fails v0 (1 : Int32) m).bind fun z1 =>
    some (.inl (some (.inl z1.1), z1.2)) := rfl
set_option maxRecDepth 100000 in
set_option maxHeartbeats 4000000 in
theorem b_M_write_79_eq (f : Nat) (v0 : Nat) (m : Mm) : b_M_write_79 (f + 1) v0 m =
    (r_M_fails v0 (2 : Int32) m).bind fun z1 =>
    some (.inl (some (.inl z1.1), z1.2)) := rfl
set_option maxRecDepth 100000 in
set_option maxHeartbeats 4000000 in
theorem b_M_write_88_eq (f : Nat) (v0 : Nat) (v3 : Int32) (v4 : Int64) (v6 : Int32) (v7 : Int32) (m : Mm) : b_M_write_88 (f + 1) v0 v3 v4 v6 v7 m =
    if v3 ≤ v7 then
      (ab_ix v6 8).bind fun i1 =>
      (ab_ix v6 8).bind fun i2 =>
      ab_let (ab_uI m 135 (v0 + 3) i2 ((m.1 135 (v0 + 3) i1) + v3)) fun m3 =>
      (ab_ix v6 8).bind fun i4 =>
      some (.inl (some (.inl (m3.1 135 (v0 + 3) i4)), m3))
    else
      (ab_ix v6 8).bind fun i5 =>
      (ab_ix ((((64 : Int32) * v6) + (m.1 135 (v0 + 3) i5)) + v7) 512).bind fun i6 =>
      ab_let (ab_uI m 133 (v0 + 1) i6 ((((v4 >>> ((((8 : Int32) * v7)).toInt64 &&& 63)) &&& (Int64.ofNat 255))).toInt32)) fun m7 =>
      ab_let (v7 + (1 : Int32)) fun x8 =>
      b_M_write_88 f v0 v3 v4 v6 x8 m7 := rfl
noncomputable def r_M_write : Nat → Int32 → Int32 → Int32 → Int64 → Mm → Option (Int32 × Mm) := ab_seal fun v0 v1 v2 v3 v4 m => ab_rI (b_M_write_0 50000 v0 v1 v2 v3 v4 m)
theorem r_M_write_eq (v0 : Nat) (v1 : Int32) (v2 : Int32) (v3 : Int32) (v4 : Int64) (m : Mm) : r_M_write v0 v1 v2 v3 v4 m = ab_rI (b_M_write_0 50000 v0 v1 v2 v3 v4 m) := by
  unfold r_M_write
  rw [ab_seal_eq]
noncomputable def c_M_write : List AV → Mm → Option (Int32 × Mm) := fun av m => match av with
  | [.inr (.inr (kv0, ov0)), .inl v1, .inl v2, .inl v3, .inr (.inl v4)] => if kv0 = 28 then (ov0.bind fun v0 => r_M_write v0 v1 v2 v3 v4 m) else none
  | _ => none
theorem c_M_write_inv {av : List AV} {m : Mm} {r : Int32 × Mm} (h : c_M_write av m = some r) : ∃ (v0 : Nat) (v1 : Int32) (v2 : Int32) (v3 : Int32) (v4 : Int64), av = [.inr (.inr (28, some v0)), .inl v1, .inl v2, .inl v3, .inr (.inl v4)] ∧ r_M_write v0 v1 v2 v3 v4 m = some r := by
  unfold c_M_write at h
  split at h
  · rename_i kv0 ov0 v1 v2 v3 v4
    by_cases hkv0 : kv0 = 28
    case neg => rw [if_neg hkv0] at h; cases h
    rw [if_pos hkv0] at h
    subst hkv0
    obtain ⟨v0, hev0, h⟩ := Option.bind_eq_some_iff.mp h
    subst hev0
    exact ⟨v0, v1, v2, v3, v4, rfl, h⟩
  · cases h
def cs_M_write : List Nat := [7, 17, 25, 81]
set_option maxRecDepth 100000 in
theorem E_M_write : ∀ (pc : Nat) (q : Ent), i_M_write pc = some q → ab_E KT CL ab_gW "StreamTransportModel" "write" (some .int) prog_12_method_6_code s_M_write 8 pc q.1 q.2.1 q.2.2.1 q.2.2.2.1 q.2.2.2.2 := fun pc q hq =>
  ab_Eb_ok lc_M lj_M fl_M (fpn_M "write") nw_M na_M nq_M (ab_tab_all (t := t_M_write) (chk := fun pc q => ab_Eb (some .int) prog_12_method_6_code s_M_write 8 LC_M LJ_M FL_M FPn_M NW_M NA_M NQ_M pc q.1 q.2.1 q.2.2.1 q.2.2.2.1 q.2.2.2.2) (by decide +kernel) hq)
set_option maxRecDepth 100000 in
theorem kp_M_write {av : List AV} {m : Mm} {r : Int32 × Mm} (h : c_M_write av m = some r) : ab_kp m r.2 := by
  obtain ⟨v0, v1, v2, v3, v4, -, h⟩ := c_M_write_inv h
  rw [r_M_write_eq] at h
  have hV : ∀ a av m m', eV_M_write a av m = some m' → ab_kp m m' := ab_ev_all (P := fun _ m r => ab_kp m r) [] (fun q hq => by cases hq)
  have hI : ∀ a av m q, eI_M_write a av m = some q → ab_kp m q.2 := ab_ev_all (P := fun _ (m : Mm) (r : Int32 × Mm) => ab_kp m r.2) [(105, c_M_isStream), (104, c_M_in), (103, c_M_fails)] (List.forall_mem_cons.mpr ⟨fun av m r h => kp_M_isStream h, List.forall_mem_cons.mpr ⟨fun av m r h => kp_M_in h, List.forall_mem_cons.mpr ⟨fun av m r h => kp_M_fails h, fun q hq => by cases hq⟩⟩⟩)
  exact ab_kprel (ρ := .inl (some (.inl r.1), r.2)) (ab_tab_isn (t := t_M_write) (by decide +kernel)) hV hI (ab_rI_inv h)
set_option maxRecDepth 100000 in
theorem cl_M_write (l : Launch) : ∀ (pc : Nat) (q : Ent), i_M_write pc = some q → ab_inv q.1 = true → ab_CR l KT CL none ab_gW "StreamTransportModel" prog_12_method_6_code 8 2 43 eV_M_write eI_M_write pc q := by
  intro pc q hq hi
  have hm : pc ∈ cs_M_write := ab_tab_cs (t := t_M_write) (by decide +kernel) hq hi
  simp only [cs_M_write, List.mem_cons, List.not_mem_nil, or_false] at hm
  rcases hm with rfl | rfl | rfl | rfl
  · cases (Option.some.inj hq : ((.invokestatic 142, 105, 2, 1, 0) : Ent) = q)
    exact ab_crS (by decide +kernel) cw_M_isStream (ab_gW_in 1151 (by decide +kernel) rfl) st_M_isStream (by decide) (fun av m m' h => by cases h) (fun av m r h => cm_M_isStream l h) KT_nd
  · cases (Option.some.inj hq : ((.invokestatic 138, 104, 3, 1, 0) : Ent) = q)
    exact ab_crS (by decide +kernel) cw_M_in (ab_gW_in 1154 (by decide +kernel) rfl) st_M_in (by decide) (fun av m m' h => by cases h) (fun av m r h => cm_M_in l h) KT_nd
  · cases (Option.some.inj hq : ((.invokevirtual 146, 103, 2, 1, 0) : Ent) = q)
    exact ab_crV (C := "StreamTransportModel") (by decide +kernel) cw_M_fails (ab_gW_in 1157 (by decide +kernel) rfl) is_M_fails sl_M_fails (by decide) (fun av m m' h => by cases h) (fun av m r h => cm_M_fails l h) KT_nd
  · cases (Option.some.inj hq : ((.invokevirtual 146, 103, 2, 1, 0) : Ent) = q)
    exact ab_crV (C := "StreamTransportModel") (by decide +kernel) cw_M_fails (ab_gW_in 1157 (by decide +kernel) rfl) is_M_fails sl_M_fails (by decide) (fun av m m' h => by cases h) (fun av m r h => cm_M_fails l h) KT_nd
theorem cw_M_write : ab_cw y_M_write prog_12_method_6_code 8 4 (some .int) := ⟨ab_gW_in 1150 (by decide +kernel) rfl, ab_gW_in 71 (by decide +kernel) rfl, by decide +kernel, by decide +kernel, by decide +kernel⟩
theorem is_M_write : Cond.instanceMethod y_M_write ∈ ab_gW := ab_gW_in 1148 (by decide +kernel) rfl
theorem sl_M_write : Cond.selects "StreamTransportModel" y_M_write y_M_write ∈ ab_gW := ab_gW_in 1149 (by decide +kernel) rfl
set_option maxRecDepth 100000 in
theorem cm_M_write (l : Launch) {av : List AV} {m : Mm} {r : Int32 × Mm} (h0 : c_M_write av m = some r) : ∃ (k q : Nat) (av' : List AV) (ci : Nat) (fs : List (Nat × Nat × Nat × Nat)) (z : vw_C), av = .inr (.inr (k, some q)) :: av' ∧ av'.length = 4 ∧ k ≠ 0 ∧ KT[k]? = some (.inl (ci, fs)) ∧ CL[ci]? = some z ∧ z.1 = "StreamTransportModel" ∧ ab_nos av' ∧ ab_Met l KT CL y_M_write (Cond.code y_M_write prog_12_method_6_code 8 (some .int) :: ab_gW) 2 43 none av m (some (.inl r.1)) r.2 := by
  obtain ⟨v0, v1, v2, v3, v4, hav, h⟩ := c_M_write_inv h0
  rw [r_M_write_eq] at h
  have hmo : ab_mo m r.2 := ab_kp_mo (kp_M_write h0)
  subst hav
  exact ⟨_, _, _, _, _, _, rfl, rfl, by decide, rfl, rfl, rfl, (by intro v hv q e; subst e; simp at hv), ab_met (by decide +kernel) KT_0 KT_nd KT_k3 E_M_write (cl_M_write l) hmo (Nat.le_of_ble_eq_true rfl) (ab_rI_inv h) (fun v hv => by cases hv; exact ⟨_, rfl⟩)⟩
/-! StreamTransportModel.finish(II)Z -/
def y_M_finish : MethodName := ⟨"StreamTransportModel", "finish", "(II)Z"⟩
def t_M_finish (pc : Nat) : Option Ent :=
  bif Nat.blt pc 29 then
    (bif Nat.blt pc 17 then
      (bif Nat.blt pc 6 then
        (bif Nat.blt pc 2 then
          (bif Nat.blt pc 1 then
            (bif Nat.beq pc 0 then some (.aload_n 0, 0, 0, 0, 0) else none)
          else
            bif Nat.beq pc 1 then some (.iconst 0, 0, 0, 0, 0) else none)
        else
          bif Nat.blt pc 5 then
            (bif Nat.beq pc 2 then some (.putfield 135, 10, 3, 0, 0) else none)
          else
            bif Nat.beq pc 5 then some (.iload_n 1, 1, 0, 0, 0) else none)
      else
        bif Nat.blt pc 10 then
          (bif Nat.blt pc 7 then
            (bif Nat.beq pc 6 then some (.iload_n 2, 2, 0, 0, 0) else none)
          else
            bif Nat.beq pc 7 then some (.invokestatic 142, 105, 2, 1, 0) else none)
        else
          bif Nat.blt pc 13 then
            (bif Nat.beq pc 10 then some (.ifCond .eq (12), 22, 0, 0, 0) else none)
          else
            bif Nat.blt pc 14 then
              (bif Nat.beq pc 13 then some (.aload_n 0, 0, 0, 0, 0) else none)
            else
              bif Nat.beq pc 14 then some (.getfield 74, 10, 25, 1, 0) else none)
    else
      bif Nat.blt pc 24 then
        (bif Nat.blt pc 19 then
          (bif Nat.blt pc 18 then
            (bif Nat.beq pc 17 then some (.iload_n 1, 1, 0, 0, 0) else none)
          else
            bif Nat.beq pc 18 then some (.iaload, 0, 0, 0, 0) else none)
        else
          bif Nat.blt pc 22 then
            (bif Nat.beq pc 19 then some (.ifCond .lt (5), 24, 0, 0, 0) else none)
          else
            bif Nat.blt pc 23 then
              (bif Nat.beq pc 22 then some (.iconst 0, 0, 0, 0, 0) else none)
            else
              bif Nat.beq pc 23 then some (.ireturn, 0, 0, 1, 0) else none)
      else
        bif Nat.blt pc 26 then
          (bif Nat.blt pc 25 then
            (bif Nat.beq pc 24 then some (.iconst 4, 0, 0, 0, 4) else none)
          else
            bif Nat.beq pc 25 then some (.iload_n 1, 1, 0, 0, 0) else none)
        else
          bif Nat.blt pc 27 then
            (bif Nat.beq pc 26 then some (.imul, 0, 0, 0, 0) else none)
          else
            bif Nat.blt pc 28 then
              (bif Nat.beq pc 27 then some (.iload_n 2, 2, 0, 0, 0) else none)
            else
              bif Nat.beq pc 28 then some (.iadd, 0, 0, 0, 0) else none)
  else
    bif Nat.blt pc 45 then
      (bif Nat.blt pc 36 then
        (bif Nat.blt pc 31 then
          (bif Nat.blt pc 30 then
            (bif Nat.beq pc 29 then some (.istore_n 3, 3, 0, 0, 0) else none)
          else
            bif Nat.beq pc 30 then some (.aload_n 0, 0, 0, 0, 0) else none)
        else
          bif Nat.blt pc 34 then
            (bif Nat.beq pc 31 then some (.getfield 31, 10, 11, 1, 0) else none)
          else
            bif Nat.blt pc 35 then
              (bif Nat.beq pc 34 then some (.iload_n 3, 3, 0, 0, 0) else none)
            else
              bif Nat.beq pc 35 then some (.baload, 0, 0, 0, 0) else none)
      else
        bif Nat.blt pc 40 then
          (bif Nat.blt pc 39 then
            (bif Nat.beq pc 36 then some (.ifCond .ne (12), 48, 0, 0, 0) else none)
          else
            bif Nat.beq pc 39 then some (.aload_n 0, 0, 0, 0, 0) else none)
        else
          bif Nat.blt pc 43 then
            (bif Nat.beq pc 40 then some (.getfield 35, 10, 12, 1, 0) else none)
          else
            bif Nat.blt pc 44 then
              (bif Nat.beq pc 43 then some (.iload_n 3, 3, 0, 0, 0) else none)
            else
              bif Nat.beq pc 44 then some (.baload, 0, 0, 0, 0) else none)
    else
      bif Nat.blt pc 54 then
        (bif Nat.blt pc 49 then
          (bif Nat.blt pc 48 then
            (bif Nat.beq pc 45 then some (.ifCond .eq (5), 50, 0, 0, 0) else none)
          else
            bif Nat.beq pc 48 then some (.iconst 0, 0, 0, 0, 0) else none)
        else
          bif Nat.blt pc 50 then
            (bif Nat.beq pc 49 then some (.ireturn, 0, 0, 1, 0) else none)
          else
            bif Nat.blt pc 51 then
              (bif Nat.beq pc 50 then some (.aload_n 0, 0, 0, 0, 0) else none)
            else
              bif Nat.beq pc 51 then some (.getfield 31, 10, 11, 1, 0) else none)
      else
        bif Nat.blt pc 56 then
          (bif Nat.blt pc 55 then
            (bif Nat.beq pc 54 then some (.iload_n 3, 3, 0, 0, 0) else none)
          else
            bif Nat.beq pc 55 then some (.iconst 1, 0, 0, 0, 1) else none)
        else
          bif Nat.blt pc 57 then
            (bif Nat.beq pc 56 then some (.bastore, 0, 0, 0, 0) else none)
          else
            bif Nat.blt pc 58 then
              (bif Nat.beq pc 57 then some (.iconst 1, 0, 0, 0, 1) else none)
            else
              bif Nat.beq pc 58 then some (.ireturn, 0, 0, 1, 0) else none
def i_M_finish : Nat → Option Ent := ab_tab 59 t_M_finish
def h_M_finish (pc : Nat) : Nat × List Bool := (0, [])
def s_M_finish (pc : Nat) : List (Int32 × Nat) × Nat := ([], 0)
noncomputable def eV_M_finish : Nat → List AV → Mm → Option Mm := ab_ev []
noncomputable def eI_M_finish : Nat → List AV → Mm → Option (Int32 × Mm) := ab_ev [(105, c_M_isStream)]
noncomputable def b_M_finish_0 (f : Nat) (v0 : Nat) (v1 : Int32) (v2 : Int32) (m : Mm) : Option Rs := ab_ex KT none s_M_finish eV_M_finish eI_M_finish i_M_finish h_M_finish f 0 [some (.inr (.inr (28, some v0))), some (.inl v1), some (.inl v2), none] [] m
set_option maxRecDepth 100000 in
set_option maxHeartbeats 4000000 in
theorem b_M_finish_0_eq (f : Nat) (v0 : Nat) (v1 : Int32) (v2 : Int32) (m : Mm) : b_M_finish_0 (f + 1) v0 v1 v2 m =
    ab_let (ab_uI m 84 v0 0 (0 : Int32)) fun m1 =>
    (r_M_isStream v1 v2 m1).bind fun z2 =>
    if z2.1 = 0 then
      (ab_bo (0 : Int32)).bind fun y3 => some (.inl (some (.inl y3), z2.2))
    else
      (ab_ix v1 2).bind fun i4 =>
      if (z2.2.1 154 (v0 + 22) i4) < 0 then
        ab_let ((((4 : Int32) * v1) + v2)) fun x5 =>
        (ab_ix x5 8).bind fun i6 =>
        if (z2.2.1 140 (v0 + 8) i6) = 0 then
          (ab_ix x5 8).bind fun i8 =>
          if (z2.2.1 141 (v0 + 9) i8) = 0 then
            (ab_ix x5 8).bind fun i9 =>
            (ab_bo (1 : Int32)).bind fun y11 =>
            ab_let (ab_uI z2.2 140 (v0 + 8) i9 y11) fun m10 =>
            (ab_bo (1 : Int32)).bind fun y12 => some (.inl (some (.inl y12), m10))
          else
            (ab_bo (0 : Int32)).bind fun y13 => some (.inl (some (.inl y13), z2.2))
        else
          (ab_bo (0 : Int32)).bind fun y7 => some (.inl (some (.inl y7), z2.2))
      else
        (ab_bo (0 : Int32)).bind fun y14 => some (.inl (some (.inl y14), z2.2)) := rfl
noncomputable def r_M_finish : Nat → Int32 → Int32 → Mm → Option (Int32 × Mm) := ab_seal fun v0 v1 v2 m => ab_rI (b_M_finish_0 50000 v0 v1 v2 m)
theorem r_M_finish_eq (v0 : Nat) (v1 : Int32) (v2 : Int32) (m : Mm) : r_M_finish v0 v1 v2 m = ab_rI (b_M_finish_0 50000 v0 v1 v2 m) := by
  unfold r_M_finish
  rw [ab_seal_eq]
noncomputable def c_M_finish : List AV → Mm → Option (Int32 × Mm) := fun av m => match av with
  | [.inr (.inr (kv0, ov0)), .inl v1, .inl v2] => if kv0 = 28 then (ov0.bind fun v0 => r_M_finish v0 v1 v2 m) else none
  | _ => none
theorem c_M_finish_inv {av : List AV} {m : Mm} {r : Int32 × Mm} (h : c_M_finish av m = some r) : ∃ (v0 : Nat) (v1 : Int32) (v2 : Int32), av = [.inr (.inr (28, some v0)), .inl v1, .inl v2] ∧ r_M_finish v0 v1 v2 m = some r := by
  unfold c_M_finish at h
  split at h
  · rename_i kv0 ov0 v1 v2
    by_cases hkv0 : kv0 = 28
    case neg => rw [if_neg hkv0] at h; cases h
    rw [if_pos hkv0] at h
    subst hkv0
    obtain ⟨v0, hev0, h⟩ := Option.bind_eq_some_iff.mp h
    subst hev0
    exact ⟨v0, v1, v2, rfl, h⟩
  · cases h
def cs_M_finish : List Nat := [7]
set_option maxRecDepth 100000 in
theorem E_M_finish : ∀ (pc : Nat) (q : Ent), i_M_finish pc = some q → ab_E KT CL ab_gW "StreamTransportModel" "finish" (some .boolean) prog_12_method_7_code s_M_finish 4 pc q.1 q.2.1 q.2.2.1 q.2.2.2.1 q.2.2.2.2 := fun pc q hq =>
  ab_Eb_ok lc_M lj_M fl_M (fpn_M "finish") nw_M na_M nq_M (ab_tab_all (t := t_M_finish) (chk := fun pc q => ab_Eb (some .boolean) prog_12_method_7_code s_M_finish 4 LC_M LJ_M FL_M FPn_M NW_M NA_M NQ_M pc q.1 q.2.1 q.2.2.1 q.2.2.2.1 q.2.2.2.2) (by decide +kernel) hq)
set_option maxRecDepth 100000 in
theorem kp_M_finish {av : List AV} {m : Mm} {r : Int32 × Mm} (h : c_M_finish av m = some r) : ab_kp m r.2 := by
  obtain ⟨v0, v1, v2, -, h⟩ := c_M_finish_inv h
  rw [r_M_finish_eq] at h
  have hV : ∀ a av m m', eV_M_finish a av m = some m' → ab_kp m m' := ab_ev_all (P := fun _ m r => ab_kp m r) [] (fun q hq => by cases hq)
  have hI : ∀ a av m q, eI_M_finish a av m = some q → ab_kp m q.2 := ab_ev_all (P := fun _ (m : Mm) (r : Int32 × Mm) => ab_kp m r.2) [(105, c_M_isStream)] (List.forall_mem_cons.mpr ⟨fun av m r h => kp_M_isStream h, fun q hq => by cases hq⟩)
  exact ab_kprel (ρ := .inl (some (.inl r.1), r.2)) (ab_tab_isn (t := t_M_finish) (by decide +kernel)) hV hI (ab_rI_inv h)
set_option maxRecDepth 100000 in
theorem cl_M_finish (l : Launch) : ∀ (pc : Nat) (q : Ent), i_M_finish pc = some q → ab_inv q.1 = true → ab_CR l KT CL none ab_gW "StreamTransportModel" prog_12_method_7_code 4 2 43 eV_M_finish eI_M_finish pc q := by
  intro pc q hq hi
  have hm : pc ∈ cs_M_finish := ab_tab_cs (t := t_M_finish) (by decide +kernel) hq hi
  simp only [cs_M_finish, List.mem_cons, List.not_mem_nil, or_false] at hm
  rcases hm with rfl
  · cases (Option.some.inj hq : ((.invokestatic 142, 105, 2, 1, 0) : Ent) = q)
    exact ab_crS (by decide +kernel) cw_M_isStream (ab_gW_in 1151 (by decide +kernel) rfl) st_M_isStream (by decide) (fun av m m' h => by cases h) (fun av m r h => cm_M_isStream l h) KT_nd
theorem cw_M_finish : ab_cw y_M_finish prog_12_method_7_code 4 2 (some .boolean) := ⟨ab_gW_in 1165 (by decide +kernel) rfl, ab_gW_in 71 (by decide +kernel) rfl, by decide +kernel, by decide +kernel, by decide +kernel⟩
theorem is_M_finish : Cond.instanceMethod y_M_finish ∈ ab_gW := ab_gW_in 1163 (by decide +kernel) rfl
theorem sl_M_finish : Cond.selects "StreamTransportModel" y_M_finish y_M_finish ∈ ab_gW := ab_gW_in 1164 (by decide +kernel) rfl
set_option maxRecDepth 100000 in
theorem cm_M_finish (l : Launch) {av : List AV} {m : Mm} {r : Int32 × Mm} (h0 : c_M_finish av m = some r) : ∃ (k q : Nat) (av' : List AV) (ci : Nat) (fs : List (Nat × Nat × Nat × Nat)) (z : vw_C), av = .inr (.inr (k, some q)) :: av' ∧ av'.length = 2 ∧ k ≠ 0 ∧ KT[k]? = some (.inl (ci, fs)) ∧ CL[ci]? = some z ∧ z.1 = "StreamTransportModel" ∧ ab_nos av' ∧ ab_Met l KT CL y_M_finish (Cond.code y_M_finish prog_12_method_7_code 4 (some .boolean) :: ab_gW) 2 43 none av m (some (.inl r.1)) r.2 := by
  obtain ⟨v0, v1, v2, hav, h⟩ := c_M_finish_inv h0
  rw [r_M_finish_eq] at h
  have hmo : ab_mo m r.2 := ab_kp_mo (kp_M_finish h0)
  subst hav
  exact ⟨_, _, _, _, _, _, rfl, rfl, by decide, rfl, rfl, rfl, (by intro v hv q e; subst e; simp at hv), ab_met (by decide +kernel) KT_0 KT_nd KT_k3 E_M_finish (cl_M_finish l) hmo (Nat.le_of_ble_eq_true rfl) (ab_rI_inv h) (fun v hv => by cases hv; exact ⟨_, rfl⟩)⟩
/-! StreamTransportModel.reset(II)Z -/
def y_M_reset : MethodName := ⟨"StreamTransportModel", "reset", "(II)Z"⟩
def t_M_reset (pc : Nat) : Option Ent :=
  bif Nat.blt pc 29 then
    (bif Nat.blt pc 14 then
      (bif Nat.blt pc 6 then
        (bif Nat.blt pc 2 then
          (bif Nat.blt pc 1 then
            (bif Nat.beq pc 0 then some (.aload_n 0, 0, 0, 0, 0) else none)
          else
            bif Nat.beq pc 1 then some (.iconst 0, 0, 0, 0, 0) else none)
        else
          bif Nat.blt pc 5 then
            (bif Nat.beq pc 2 then some (.putfield 135, 10, 3, 0, 0) else none)
          else
            bif Nat.beq pc 5 then some (.iload_n 1, 1, 0, 0, 0) else none)
      else
        bif Nat.blt pc 10 then
          (bif Nat.blt pc 7 then
            (bif Nat.beq pc 6 then some (.iload_n 2, 2, 0, 0, 0) else none)
          else
            bif Nat.beq pc 7 then some (.invokestatic 142, 105, 2, 1, 0) else none)
        else
          bif Nat.blt pc 13 then
            (bif Nat.beq pc 10 then some (.ifCond .eq (25), 35, 0, 0, 0) else none)
          else
            bif Nat.beq pc 13 then some (.aload_n 0, 0, 0, 0, 0) else none)
    else
      bif Nat.blt pc 22 then
        (bif Nat.blt pc 18 then
          (bif Nat.blt pc 17 then
            (bif Nat.beq pc 14 then some (.getfield 74, 10, 25, 1, 0) else none)
          else
            bif Nat.beq pc 17 then some (.iload_n 1, 1, 0, 0, 0) else none)
        else
          bif Nat.blt pc 19 then
            (bif Nat.beq pc 18 then some (.iaload, 0, 0, 0, 0) else none)
          else
            bif Nat.beq pc 19 then some (.ifCond .ge (16), 35, 0, 0, 0) else none)
      else
        bif Nat.blt pc 26 then
          (bif Nat.blt pc 23 then
            (bif Nat.beq pc 22 then some (.aload_n 0, 0, 0, 0, 0) else none)
          else
            bif Nat.beq pc 23 then some (.getfield 35, 10, 12, 1, 0) else none)
        else
          bif Nat.blt pc 27 then
            (bif Nat.beq pc 26 then some (.iconst 4, 0, 0, 0, 4) else none)
          else
            bif Nat.blt pc 28 then
              (bif Nat.beq pc 27 then some (.iload_n 1, 1, 0, 0, 0) else none)
            else
              bif Nat.beq pc 28 then some (.imul, 0, 0, 0, 0) else none)
  else
    bif Nat.blt pc 41 then
      (bif Nat.blt pc 35 then
        (bif Nat.blt pc 31 then
          (bif Nat.blt pc 30 then
            (bif Nat.beq pc 29 then some (.iload_n 2, 2, 0, 0, 0) else none)
          else
            bif Nat.beq pc 30 then some (.iadd, 0, 0, 0, 0) else none)
        else
          bif Nat.blt pc 32 then
            (bif Nat.beq pc 31 then some (.baload, 0, 0, 0, 0) else none)
          else
            bif Nat.beq pc 32 then some (.ifCond .eq (5), 37, 0, 0, 0) else none)
      else
        bif Nat.blt pc 37 then
          (bif Nat.blt pc 36 then
            (bif Nat.beq pc 35 then some (.iconst 0, 0, 0, 0, 0) else none)
          else
            bif Nat.beq pc 36 then some (.ireturn, 0, 0, 1, 0) else none)
        else
          bif Nat.blt pc 38 then
            (bif Nat.beq pc 37 then some (.aload_n 0, 0, 0, 0, 0) else none)
          else
            bif Nat.beq pc 38 then some (.getfield 35, 10, 12, 1, 0) else none)
    else
      bif Nat.blt pc 45 then
        (bif Nat.blt pc 43 then
          (bif Nat.blt pc 42 then
            (bif Nat.beq pc 41 then some (.iconst 4, 0, 0, 0, 4) else none)
          else
            bif Nat.beq pc 42 then some (.iload_n 1, 1, 0, 0, 0) else none)
        else
          bif Nat.blt pc 44 then
            (bif Nat.beq pc 43 then some (.imul, 0, 0, 0, 0) else none)
          else
            bif Nat.beq pc 44 then some (.iload_n 2, 2, 0, 0, 0) else none)
      else
        bif Nat.blt pc 47 then
          (bif Nat.blt pc 46 then
            (bif Nat.beq pc 45 then some (.iadd, 0, 0, 0, 0) else none)
          else
            bif Nat.beq pc 46 then some (.iconst 1, 0, 0, 0, 1) else none)
        else
          bif Nat.blt pc 48 then
            (bif Nat.beq pc 47 then some (.bastore, 0, 0, 0, 0) else none)
          else
            bif Nat.blt pc 49 then
              (bif Nat.beq pc 48 then some (.iconst 1, 0, 0, 0, 1) else none)
            else
              bif Nat.beq pc 49 then some (.ireturn, 0, 0, 1, 0) else none
def i_M_reset : Nat → Option Ent := ab_tab 50 t_M_reset
def h_M_reset (pc : Nat) : Nat × List Bool := (0, [])
def s_M_reset (pc : Nat) : List (Int32 × Nat) × Nat := ([], 0)
noncomputable def eV_M_reset : Nat → List AV → Mm → Option Mm := ab_ev []
noncomputable def eI_M_reset : Nat → List AV → Mm → Option (Int32 × Mm) := ab_ev [(105, c_M_isStream)]
noncomputable def b_M_reset_0 (f : Nat) (v0 : Nat) (v1 : Int32) (v2 : Int32) (m : Mm) : Option Rs := ab_ex KT none s_M_reset eV_M_reset eI_M_reset i_M_reset h_M_reset f 0 [some (.inr (.inr (28, some v0))), some (.inl v1), some (.inl v2)] [] m
set_option maxRecDepth 100000 in
set_option maxHeartbeats 4000000 in
theorem b_M_reset_0_eq (f : Nat) (v0 : Nat) (v1 : Int32) (v2 : Int32) (m : Mm) : b_M_reset_0 (f + 1) v0 v1 v2 m =
    ab_let (ab_uI m 84 v0 0 (0 : Int32)) fun m1 =>
    (r_M_isStream v1 v2 m1).bind fun z2 =>
    if z2.1 = 0 then
      (ab_bo (0 : Int32)).bind fun y3 => some (.inl (some (.inl y3), z2.2))
    else
      (ab_ix v1 2).bind fun i4 =>
      if 0 ≤ (z2.2.1 154 (v0 + 22) i4) then
        (ab_bo (0 : Int32)).bind fun y5 => some (.inl (some (.inl y5), z2.2))
      else
        (ab_ix (((4 : Int32) * v1) + v2) 8).bind fun i6 =>
        if (z2.2.1 141 (v0 + 9) i6) = 0 then
          (ab_ix (((4 : Int32) * v1) + v2) 8).bind fun i7 =>
          (ab_bo (1 : Int32)).bind fun y9 =>
          ab_let (ab_uI z2.2 141 (v0 + 9) i7 y9) fun m8 =>
          (ab_bo (1 : Int32)).bind fun y10 => some (.inl (some (.inl y10), m8))
        else
          (ab_bo (0 : Int32)).bind fun y11 => some (.inl (some (.inl y11), z2.2)) := rfl
noncomputable def r_M_reset : Nat → Int32 → Int32 → Mm → Option (Int32 × Mm) := ab_seal fun v0 v1 v2 m => ab_rI (b_M_reset_0 50000 v0 v1 v2 m)
theorem r_M_reset_eq (v0 : Nat) (v1 : Int32) (v2 : Int32) (m : Mm) : r_M_reset v0 v1 v2 m = ab_rI (b_M_reset_0 50000 v0 v1 v2 m) := by
  unfold r_M_reset
  rw [ab_seal_eq]
noncomputable def c_M_reset : List AV → Mm → Option (Int32 × Mm) := fun av m => match av with
  | [.inr (.inr (kv0, ov0)), .inl v1, .inl v2] => if kv0 = 28 then (ov0.bind fun v0 => r_M_reset v0 v1 v2 m) else none
  | _ => none
theorem c_M_reset_inv {av : List AV} {m : Mm} {r : Int32 × Mm} (h : c_M_reset av m = some r) : ∃ (v0 : Nat) (v1 : Int32) (v2 : Int32), av = [.inr (.inr (28, some v0)), .inl v1, .inl v2] ∧ r_M_reset v0 v1 v2 m = some r := by
  unfold c_M_reset at h
  split at h
  · rename_i kv0 ov0 v1 v2
    by_cases hkv0 : kv0 = 28
    case neg => rw [if_neg hkv0] at h; cases h
    rw [if_pos hkv0] at h
    subst hkv0
    obtain ⟨v0, hev0, h⟩ := Option.bind_eq_some_iff.mp h
    subst hev0
    exact ⟨v0, v1, v2, rfl, h⟩
  · cases h
def cs_M_reset : List Nat := [7]
set_option maxRecDepth 100000 in
theorem E_M_reset : ∀ (pc : Nat) (q : Ent), i_M_reset pc = some q → ab_E KT CL ab_gW "StreamTransportModel" "reset" (some .boolean) prog_12_method_8_code s_M_reset 3 pc q.1 q.2.1 q.2.2.1 q.2.2.2.1 q.2.2.2.2 := fun pc q hq =>
  ab_Eb_ok lc_M lj_M fl_M (fpn_M "reset") nw_M na_M nq_M (ab_tab_all (t := t_M_reset) (chk := fun pc q => ab_Eb (some .boolean) prog_12_method_8_code s_M_reset 3 LC_M LJ_M FL_M FPn_M NW_M NA_M NQ_M pc q.1 q.2.1 q.2.2.1 q.2.2.2.1 q.2.2.2.2) (by decide +kernel) hq)
set_option maxRecDepth 100000 in
theorem kp_M_reset {av : List AV} {m : Mm} {r : Int32 × Mm} (h : c_M_reset av m = some r) : ab_kp m r.2 := by
  obtain ⟨v0, v1, v2, -, h⟩ := c_M_reset_inv h
  rw [r_M_reset_eq] at h
  have hV : ∀ a av m m', eV_M_reset a av m = some m' → ab_kp m m' := ab_ev_all (P := fun _ m r => ab_kp m r) [] (fun q hq => by cases hq)
  have hI : ∀ a av m q, eI_M_reset a av m = some q → ab_kp m q.2 := ab_ev_all (P := fun _ (m : Mm) (r : Int32 × Mm) => ab_kp m r.2) [(105, c_M_isStream)] (List.forall_mem_cons.mpr ⟨fun av m r h => kp_M_isStream h, fun q hq => by cases hq⟩)
  exact ab_kprel (ρ := .inl (some (.inl r.1), r.2)) (ab_tab_isn (t := t_M_reset) (by decide +kernel)) hV hI (ab_rI_inv h)
set_option maxRecDepth 100000 in
theorem cl_M_reset (l : Launch) : ∀ (pc : Nat) (q : Ent), i_M_reset pc = some q → ab_inv q.1 = true → ab_CR l KT CL none ab_gW "StreamTransportModel" prog_12_method_8_code 3 2 43 eV_M_reset eI_M_reset pc q := by
  intro pc q hq hi
  have hm : pc ∈ cs_M_reset := ab_tab_cs (t := t_M_reset) (by decide +kernel) hq hi
  simp only [cs_M_reset, List.mem_cons, List.not_mem_nil, or_false] at hm
  rcases hm with rfl
  · cases (Option.some.inj hq : ((.invokestatic 142, 105, 2, 1, 0) : Ent) = q)
    exact ab_crS (by decide +kernel) cw_M_isStream (ab_gW_in 1151 (by decide +kernel) rfl) st_M_isStream (by decide) (fun av m m' h => by cases h) (fun av m r h => cm_M_isStream l h) KT_nd
theorem cw_M_reset : ab_cw y_M_reset prog_12_method_8_code 3 2 (some .boolean) := ⟨ab_gW_in 1169 (by decide +kernel) rfl, ab_gW_in 71 (by decide +kernel) rfl, by decide +kernel, by decide +kernel, by decide +kernel⟩
theorem is_M_reset : Cond.instanceMethod y_M_reset ∈ ab_gW := ab_gW_in 1167 (by decide +kernel) rfl
theorem sl_M_reset : Cond.selects "StreamTransportModel" y_M_reset y_M_reset ∈ ab_gW := ab_gW_in 1168 (by decide +kernel) rfl
set_option maxRecDepth 100000 in
theorem cm_M_reset (l : Launch) {av : List AV} {m : Mm} {r : Int32 × Mm} (h0 : c_M_reset av m = some r) : ∃ (k q : Nat) (av' : List AV) (ci : Nat) (fs : List (Nat × Nat × Nat × Nat)) (z : vw_C), av = .inr (.inr (k, some q)) :: av' ∧ av'.length = 2 ∧ k ≠ 0 ∧ KT[k]? = some (.inl (ci, fs)) ∧ CL[ci]? = some z ∧ z.1 = "StreamTransportModel" ∧ ab_nos av' ∧ ab_Met l KT CL y_M_reset (Cond.code y_M_reset prog_12_method_8_code 3 (some .boolean) :: ab_gW) 2 43 none av m (some (.inl r.1)) r.2 := by
  obtain ⟨v0, v1, v2, hav, h⟩ := c_M_reset_inv h0
  rw [r_M_reset_eq] at h
  have hmo : ab_mo m r.2 := ab_kp_mo (kp_M_reset h0)
  subst hav
  exact ⟨_, _, _, _, _, _, rfl, rfl, by decide, rfl, rfl, rfl, (by intro v hv q e; subst e; simp at hv), ab_met (by decide +kernel) KT_0 KT_nd KT_k3 E_M_reset (cl_M_reset l) hmo (Nat.le_of_ble_eq_true rfl) (ab_rI_inv h) (fun v hv => by cases hv; exact ⟨_, rfl⟩)⟩
/-! StreamTransportModel.read(II)I -/
def y_M_read : MethodName := ⟨"StreamTransportModel", "read", "(II)I"⟩
def t_M_read (pc : Nat) : Option Ent :=
  bif Nat.blt pc 97 then
    (bif Nat.blt pc 46 then
      (bif Nat.blt pc 23 then
        (bif Nat.blt pc 13 then
          (bif Nat.blt pc 5 then
            (bif Nat.blt pc 1 then
              (bif Nat.beq pc 0 then some (.aload_n 0, 0, 0, 0, 0) else none)
            else
              bif Nat.blt pc 2 then
                (bif Nat.beq pc 1 then some (.iconst 0, 0, 0, 0, 0) else none)
              else
                bif Nat.beq pc 2 then some (.putfield 135, 10, 3, 0, 0) else none)
          else
            bif Nat.blt pc 7 then
              (bif Nat.blt pc 6 then
                (bif Nat.beq pc 5 then some (.iload_n 1, 1, 0, 0, 0) else none)
              else
                bif Nat.beq pc 6 then some (.iload_n 2, 2, 0, 0, 0) else none)
            else
              bif Nat.blt pc 10 then
                (bif Nat.beq pc 7 then some (.invokestatic 142, 105, 2, 1, 0) else none)
              else
                bif Nat.beq pc 10 then some (.ifCond .ne (9), 19, 0, 0, 0) else none)
        else
          bif Nat.blt pc 19 then
            (bif Nat.blt pc 15 then
              (bif Nat.blt pc 14 then
                (bif Nat.beq pc 13 then some (.aload_n 0, 0, 0, 0, 0) else none)
              else
                bif Nat.beq pc 14 then some (.iconst 1, 0, 0, 0, 1) else none)
            else
              bif Nat.blt pc 18 then
                (bif Nat.beq pc 15 then some (.invokevirtual 146, 103, 2, 1, 0) else none)
              else
                bif Nat.beq pc 18 then some (.ireturn, 0, 0, 0, 0) else none)
          else
            bif Nat.blt pc 21 then
              (bif Nat.blt pc 20 then
                (bif Nat.beq pc 19 then some (.iconst 4, 0, 0, 0, 4) else none)
              else
                bif Nat.beq pc 20 then some (.iload_n 1, 1, 0, 0, 0) else none)
            else
              bif Nat.blt pc 22 then
                (bif Nat.beq pc 21 then some (.imul, 0, 0, 0, 0) else none)
              else
                bif Nat.beq pc 22 then some (.iload_n 2, 2, 0, 0, 0) else none)
      else
        bif Nat.blt pc 34 then
          (bif Nat.blt pc 26 then
            (bif Nat.blt pc 24 then
              (bif Nat.beq pc 23 then some (.iadd, 0, 0, 0, 0) else none)
            else
              bif Nat.blt pc 25 then
                (bif Nat.beq pc 24 then some (.istore_n 3, 3, 0, 0, 0) else none)
              else
                bif Nat.beq pc 25 then some (.aload_n 0, 0, 0, 0, 0) else none)
          else
            bif Nat.blt pc 30 then
              (bif Nat.blt pc 29 then
                (bif Nat.beq pc 26 then some (.getfield 53, 10, 18, 1, 0) else none)
              else
                bif Nat.beq pc 29 then some (.iload_n 3, 3, 0, 0, 0) else none)
            else
              bif Nat.blt pc 31 then
                (bif Nat.beq pc 30 then some (.baload, 0, 0, 0, 0) else none)
              else
                bif Nat.beq pc 31 then some (.ifCond .eq (9), 40, 0, 0, 0) else none)
        else
          bif Nat.blt pc 40 then
            (bif Nat.blt pc 36 then
              (bif Nat.blt pc 35 then
                (bif Nat.beq pc 34 then some (.aload_n 0, 0, 0, 0, 0) else none)
              else
                bif Nat.beq pc 35 then some (.iconst 2, 0, 0, 0, 2) else none)
            else
              bif Nat.blt pc 39 then
                (bif Nat.beq pc 36 then some (.invokevirtual 146, 103, 2, 1, 0) else none)
              else
                bif Nat.beq pc 39 then some (.ireturn, 0, 0, 0, 0) else none)
          else
            bif Nat.blt pc 44 then
              (bif Nat.blt pc 41 then
                (bif Nat.beq pc 40 then some (.aload_n 0, 0, 0, 0, 0) else none)
              else
                bif Nat.beq pc 41 then some (.getfield 44, 10, 15, 1, 0) else none)
            else
              bif Nat.blt pc 45 then
                (bif Nat.beq pc 44 then some (.iload_n 3, 3, 0, 0, 0) else none)
              else
                bif Nat.beq pc 45 then some (.iaload, 0, 0, 0, 0) else none)
    else
      bif Nat.blt pc 72 then
        (bif Nat.blt pc 57 then
          (bif Nat.blt pc 51 then
            (bif Nat.blt pc 47 then
              (bif Nat.beq pc 46 then some (.aload_n 0, 0, 0, 0, 0) else none)
            else
              bif Nat.blt pc 50 then
                (bif Nat.beq pc 47 then some (.getfield 47, 10, 16, 1, 0) else none)
              else
                bif Nat.beq pc 50 then some (.iload_n 3, 3, 0, 0, 0) else none)
          else
            bif Nat.blt pc 55 then
              (bif Nat.blt pc 52 then
                (bif Nat.beq pc 51 then some (.iaload, 0, 0, 0, 0) else none)
              else
                bif Nat.beq pc 52 then some (.if_icmp .ne (9), 61, 0, 0, 0) else none)
            else
              bif Nat.blt pc 56 then
                (bif Nat.beq pc 55 then some (.aload_n 0, 0, 0, 0, 0) else none)
              else
                bif Nat.beq pc 56 then some (.iconst 3, 0, 0, 0, 3) else none)
        else
          bif Nat.blt pc 65 then
            (bif Nat.blt pc 61 then
              (bif Nat.blt pc 60 then
                (bif Nat.beq pc 57 then some (.invokevirtual 146, 103, 2, 1, 0) else none)
              else
                bif Nat.beq pc 60 then some (.ireturn, 0, 0, 0, 0) else none)
            else
              bif Nat.blt pc 62 then
                (bif Nat.beq pc 61 then some (.aload_n 0, 0, 0, 0, 0) else none)
              else
                bif Nat.beq pc 62 then some (.getfield 47, 10, 16, 1, 0) else none)
          else
            bif Nat.blt pc 67 then
              (bif Nat.blt pc 66 then
                (bif Nat.beq pc 65 then some (.iload_n 3, 3, 0, 0, 0) else none)
              else
                bif Nat.beq pc 66 then some (.iaload, 0, 0, 0, 0) else none)
            else
              bif Nat.blt pc 69 then
                (bif Nat.beq pc 67 then some (.bipush 64, 0, 0, 0, 64) else none)
              else
                bif Nat.beq pc 69 then some (.if_icmp .ge (22), 91, 0, 0, 0) else none)
      else
        bif Nat.blt pc 85 then
          (bif Nat.blt pc 79 then
            (bif Nat.blt pc 76 then
              (bif Nat.blt pc 73 then
                (bif Nat.beq pc 72 then some (.aload_n 0, 0, 0, 0, 0) else none)
              else
                bif Nat.beq pc 73 then some (.getfield 38, 10, 13, 1, 0) else none)
            else
              bif Nat.blt pc 78 then
                (bif Nat.beq pc 76 then some (.bipush 64, 0, 0, 0, 64) else none)
              else
                bif Nat.beq pc 78 then some (.iload_n 3, 3, 0, 0, 0) else none)
          else
            bif Nat.blt pc 81 then
              (bif Nat.blt pc 80 then
                (bif Nat.beq pc 79 then some (.imul, 0, 0, 0, 0) else none)
              else
                bif Nat.beq pc 80 then some (.aload_n 0, 0, 0, 0, 0) else none)
            else
              bif Nat.blt pc 84 then
                (bif Nat.beq pc 81 then some (.getfield 47, 10, 16, 1, 0) else none)
              else
                bif Nat.beq pc 84 then some (.iload_n 3, 3, 0, 0, 0) else none)
        else
          bif Nat.blt pc 91 then
            (bif Nat.blt pc 87 then
              (bif Nat.blt pc 86 then
                (bif Nat.beq pc 85 then some (.iaload, 0, 0, 0, 0) else none)
              else
                bif Nat.beq pc 86 then some (.iadd, 0, 0, 0, 0) else none)
            else
              bif Nat.blt pc 88 then
                (bif Nat.beq pc 87 then some (.iaload, 0, 0, 0, 0) else none)
              else
                bif Nat.beq pc 88 then some (.ifCond .ge (9), 97, 0, 0, 0) else none)
          else
            bif Nat.blt pc 93 then
              (bif Nat.blt pc 92 then
                (bif Nat.beq pc 91 then some (.aload_n 0, 0, 0, 0, 0) else none)
              else
                bif Nat.beq pc 92 then some (.iconst 4, 0, 0, 0, 4) else none)
            else
              bif Nat.blt pc 96 then
                (bif Nat.beq pc 93 then some (.invokevirtual 146, 103, 2, 1, 0) else none)
              else
                bif Nat.beq pc 96 then some (.ireturn, 0, 0, 0, 0) else none)
  else
    bif Nat.blt pc 146 then
      (bif Nat.blt pc 119 then
        (bif Nat.blt pc 106 then
          (bif Nat.blt pc 102 then
            (bif Nat.blt pc 98 then
              (bif Nat.beq pc 97 then some (.aload_n 0, 0, 0, 0, 0) else none)
            else
              bif Nat.blt pc 101 then
                (bif Nat.beq pc 98 then some (.getfield 47, 10, 16, 1, 0) else none)
              else
                bif Nat.beq pc 101 then some (.iload_n 3, 3, 0, 0, 0) else none)
          else
            bif Nat.blt pc 104 then
              (bif Nat.blt pc 103 then
                (bif Nat.beq pc 102 then some (.dup2, 0, 0, 0, 0) else none)
              else
                bif Nat.beq pc 103 then some (.iaload, 0, 0, 0, 0) else none)
            else
              bif Nat.blt pc 105 then
                (bif Nat.beq pc 104 then some (.iconst 1, 0, 0, 0, 1) else none)
              else
                bif Nat.beq pc 105 then some (.iadd, 0, 0, 0, 0) else none)
        else
          bif Nat.blt pc 112 then
            (bif Nat.blt pc 108 then
              (bif Nat.blt pc 107 then
                (bif Nat.beq pc 106 then some (.iastore, 0, 0, 0, 0) else none)
              else
                bif Nat.beq pc 107 then some (.aload_n 0, 0, 0, 0, 0) else none)
            else
              bif Nat.blt pc 109 then
                (bif Nat.beq pc 108 then some (.iload_n 3, 3, 0, 0, 0) else none)
              else
                bif Nat.beq pc 109 then some (.invokevirtual 152, 106, 2, 1, 0) else none)
          else
            bif Nat.blt pc 115 then
              (bif Nat.blt pc 114 then
                (bif Nat.beq pc 112 then some (.istore 4, 4, 0, 0, 0) else none)
              else
                bif Nat.beq pc 114 then some (.aload_n 0, 0, 0, 0, 0) else none)
            else
              bif Nat.blt pc 118 then
                (bif Nat.beq pc 115 then some (.getfield 56, 10, 19, 1, 0) else none)
              else
                bif Nat.beq pc 118 then some (.iload_n 3, 3, 0, 0, 0) else none)
      else
        bif Nat.blt pc 131 then
          (bif Nat.blt pc 124 then
            (bif Nat.blt pc 120 then
              (bif Nat.beq pc 119 then some (.aload_n 0, 0, 0, 0, 0) else none)
            else
              bif Nat.blt pc 123 then
                (bif Nat.beq pc 120 then some (.getfield 56, 10, 19, 1, 0) else none)
              else
                bif Nat.beq pc 123 then some (.iload_n 3, 3, 0, 0, 0) else none)
          else
            bif Nat.blt pc 128 then
              (bif Nat.blt pc 125 then
                (bif Nat.beq pc 124 then some (.baload, 0, 0, 0, 0) else none)
              else
                bif Nat.beq pc 125 then some (.ifCond .ne (39), 164, 0, 0, 0) else none)
            else
              bif Nat.blt pc 130 then
                (bif Nat.beq pc 128 then some (.iload 4, 4, 0, 0, 0) else none)
              else
                bif Nat.beq pc 130 then some (.aload_n 0, 0, 0, 0, 0) else none)
        else
          bif Nat.blt pc 139 then
            (bif Nat.blt pc 135 then
              (bif Nat.blt pc 134 then
                (bif Nat.beq pc 131 then some (.getfield 50, 10, 17, 1, 0) else none)
              else
                bif Nat.beq pc 134 then some (.iload_n 3, 3, 0, 0, 0) else none)
            else
              bif Nat.blt pc 136 then
                (bif Nat.beq pc 135 then some (.iaload, 0, 0, 0, 0) else none)
              else
                bif Nat.beq pc 136 then some (.if_icmp .le (32), 168, 0, 0, 0) else none)
          else
            bif Nat.blt pc 142 then
              (bif Nat.blt pc 141 then
                (bif Nat.beq pc 139 then some (.iload 4, 4, 0, 0, 0) else none)
              else
                bif Nat.beq pc 141 then some (.aload_n 0, 0, 0, 0, 0) else none)
            else
              bif Nat.blt pc 145 then
                (bif Nat.beq pc 142 then some (.getfield 50, 10, 17, 1, 0) else none)
              else
                bif Nat.beq pc 145 then some (.iload_n 3, 3, 0, 0, 0) else none)
    else
      bif Nat.blt pc 171 then
        (bif Nat.blt pc 157 then
          (bif Nat.blt pc 149 then
            (bif Nat.blt pc 147 then
              (bif Nat.beq pc 146 then some (.iaload, 0, 0, 0, 0) else none)
            else
              bif Nat.blt pc 148 then
                (bif Nat.beq pc 147 then some (.isub, 0, 0, 0, 0) else none)
              else
                bif Nat.beq pc 148 then some (.aload_n 0, 0, 0, 0, 0) else none)
          else
            bif Nat.blt pc 153 then
              (bif Nat.blt pc 152 then
                (bif Nat.beq pc 149 then some (.getfield 128, 10, 0, 0, 0) else none)
              else
                bif Nat.beq pc 152 then some (.iconst 2, 0, 0, 0, 2) else none)
            else
              bif Nat.blt pc 154 then
                (bif Nat.beq pc 153 then some (.idiv, 0, 0, 0, 0) else none)
              else
                bif Nat.beq pc 154 then some (.if_icmp .ge (10), 164, 0, 0, 0) else none)
        else
          bif Nat.blt pc 165 then
            (bif Nat.blt pc 161 then
              (bif Nat.blt pc 159 then
                (bif Nat.beq pc 157 then some (.iload 4, 4, 0, 0, 0) else none)
              else
                bif Nat.beq pc 159 then some (.bipush 64, 0, 0, 0, 64) else none)
            else
              bif Nat.blt pc 164 then
                (bif Nat.beq pc 161 then some (.if_icmp .ne (7), 168, 0, 0, 0) else none)
              else
                bif Nat.beq pc 164 then some (.iconst 1, 0, 0, 0, 1) else none)
          else
            bif Nat.blt pc 169 then
              (bif Nat.blt pc 168 then
                (bif Nat.beq pc 165 then some (.goto 4, 169, 0, 0, 0) else none)
              else
                bif Nat.beq pc 168 then some (.iconst 0, 0, 0, 0, 0) else none)
            else
              bif Nat.blt pc 170 then
                (bif Nat.beq pc 169 then some (.bastore, 0, 0, 0, 0) else none)
              else
                bif Nat.beq pc 170 then some (.aload_n 0, 0, 0, 0, 0) else none)
      else
        bif Nat.blt pc 184 then
          (bif Nat.blt pc 179 then
            (bif Nat.blt pc 175 then
              (bif Nat.blt pc 172 then
                (bif Nat.beq pc 171 then some (.iload_n 1, 1, 0, 0, 0) else none)
              else
                bif Nat.beq pc 172 then some (.invokevirtual 155, 108, 2, 0, 0) else none)
            else
              bif Nat.blt pc 176 then
                (bif Nat.beq pc 175 then some (.aload_n 0, 0, 0, 0, 0) else none)
              else
                bif Nat.beq pc 176 then some (.getfield 38, 10, 13, 1, 0) else none)
          else
            bif Nat.blt pc 182 then
              (bif Nat.blt pc 181 then
                (bif Nat.beq pc 179 then some (.bipush 64, 0, 0, 0, 64) else none)
              else
                bif Nat.beq pc 181 then some (.iload_n 3, 3, 0, 0, 0) else none)
            else
              bif Nat.blt pc 183 then
                (bif Nat.beq pc 182 then some (.imul, 0, 0, 0, 0) else none)
              else
                bif Nat.beq pc 183 then some (.aload_n 0, 0, 0, 0, 0) else none)
        else
          bif Nat.blt pc 190 then
            (bif Nat.blt pc 188 then
              (bif Nat.blt pc 187 then
                (bif Nat.beq pc 184 then some (.getfield 47, 10, 16, 1, 0) else none)
              else
                bif Nat.beq pc 187 then some (.iload_n 3, 3, 0, 0, 0) else none)
            else
              bif Nat.blt pc 189 then
                (bif Nat.beq pc 188 then some (.iaload, 0, 0, 0, 0) else none)
              else
                bif Nat.beq pc 189 then some (.iadd, 0, 0, 0, 0) else none)
          else
            bif Nat.blt pc 192 then
              (bif Nat.blt pc 191 then
                (bif Nat.beq pc 190 then some (.iconst 1, 0, 0, 0, 1) else none)
              else
                bif Nat.beq pc 191 then some (.isub, 0, 0, 0, 0) else none)
            else
              bif Nat.blt pc 193 then
                (bif Nat.beq pc 192 then some (.iaload, 0, 0, 0, 0) else none)
              else
                bif Nat.beq pc 193 then some (.ireturn, 0, 0, 0, 0) else none
def i_M_read : Nat → Option Ent := ab_tab 194 t_M_read
def h_M_read (pc : Nat) : Nat × List Bool := bif Nat.beq pc 91 then (1, [true, false, false, false, false]) else bif Nat.beq pc 164 then (1, [true, true, false, true, false]) else bif Nat.beq pc 168 then (1, [true, true, false, true, false]) else bif Nat.beq pc 169 then (1, [true, true, false, true, false]) else (0, [])
def s_M_read (pc : Nat) : List (Int32 × Nat) × Nat := ([], 0)
noncomputable def eV_M_read : Nat → List AV → Mm → Option Mm := ab_ev [(108, c_M_lookAll)]
noncomputable def eI_M_read : Nat → List AV → Mm → Option (Int32 × Mm) := ab_ev [(105, c_M_isStream), (103, c_M_fails), (106, c_M_streamTarget)]
noncomputable def b_M_read_0 (f : Nat) (v0 : Nat) (v1 : Int32) (v2 : Int32) (m : Mm) : Option Rs := ab_ex KT none s_M_read eV_M_read eI_M_read i_M_read h_M_read f 0 [some (.inr (.inr (28, some v0))), some (.inl v1), some (.inl v2), none, none] [] m
noncomputable def b_M_read_91 (f : Nat) (v0 : Nat) (m : Mm) : Option Rs := ab_ex KT none s_M_read eV_M_read eI_M_read i_M_read h_M_read f 91 [some (.inr (.inr (28, some v0))), none, none, none, none] [] m
noncomputable def b_M_read_164 (f : Nat) (v0 : Nat) (v1 : Int32) (v3 : Int32) (u0 : Nat) (u1 : Int32) (m : Mm) : Option Rs := ab_ex KT none s_M_read eV_M_read eI_M_read i_M_read h_M_read f 164 [some (.inr (.inr (28, some v0))), some (.inl v1), none, some (.inl v3), none] [.inl u1, .inr (.inr (44, some u0))] m
noncomputable def b_M_read_168 (f : Nat) (v0 : Nat) (v1 : Int32) (v3 : Int32) (u0 : Nat) (u1 : Int32) (m : Mm) : Option Rs := ab_ex KT none s_M_read eV_M_read eI_M_read i_M_read h_M_read f 168 [some (.inr (.inr (28, some v0))), some (.inl v1), none, some (.inl v3), none] [.inl u1, .inr (.inr (44, some u0))] m
noncomputable def b_M_read_169 (f : Nat) (v0 : Nat) (v1 : Int32) (v3 : Int32) (u0 : Nat) (u1 : Int32) (u2 : Int32) (m : Mm) : Option Rs := ab_ex KT none s_M_read eV_M_read eI_M_read i_M_read h_M_read f 169 [some (.inr (.inr (28, some v0))), some (.inl v1), none, some (.inl v3), none] [.inl u2, .inl u1, .inr (.inr (44, some u0))] m
set_option maxRecDepth 100000 in
set_option maxHeartbeats 4000000 in
theorem b_M_read_0_eq (f : Nat) (v0 : Nat) (v1 : Int32) (v2 : Int32) (m : Mm) : b_M_read_0 (f + 1) v0 v1 v2 m =
    ab_let (ab_uI m 84 v0 0 (0 : Int32)) fun m1 =>
    (r_M_isStream v1 v2 m1).bind fun z2 =>
    if z2.1 = 0 then
      (r_M_fails v0 (1 : Int32) z2.2).bind fun z19 =>
      some (.inl (some (.inl z19.1), z19.2))
    else
      ab_let ((((4 : Int32) * v1) + v2)) fun x3 =>
      (ab_ix x3 8).bind fun i4 =>
      if (z2.2.1 147 (v0 + 15) i4) = 0 then
        (ab_ix x3 8).bind fun i5 =>
        (ab_ix x3 8).bind fun i6 =>
        if (z2.2.1 144 (v0 + 12) i5) = (z2.2.1 145 (v0 + 13) i6) then
          (r_M_fails v0 (3 : Int32) z2.2).bind fun z17 =>
          some (.inl (some (.inl z17.1), z17.2))
        else
          (ab_ix x3 8).bind fun i7 =>
          if (64 : Int32) ≤ (z2.2.1 145 (v0 + 13) i7) then
            b_M_read_91 f v0 z2.2
          else
            (ab_ix x3 8).bind fun i8 =>
            (ab_ix (((64 : Int32) * x3) + (z2.2.1 145 (v0 + 13) i8)) 512).bind fun i9 =>
            if 0 ≤ (z2.2.1 142 (v0 + 10) i9) then
              (ab_ix x3 8).bind fun i10 =>
              (ab_ix x3 8).bind fun i11 =>
              ab_let (ab_uI z2.2 145 (v0 + 13) i11 ((z2.2.1 145 (v0 + 13) i10) + (1 : Int32))) fun m12 =>
              (r_M_streamTarget v0 x3 m12).bind fun z13 =>
              (ab_ix x3 8).bind fun i14 =>
              if (z13.2.1 148 (v0 + 16) i14) = 0 then
                (ab_ix x3 8).bind fun i15 =>
                if z13.1 ≤ (z13.2.1 146 (v0 + 14) i15) then
                  b_M_read_168 f v0 v1 x3 (v0 + 16) x3 z13.2
                else
                  (ab_ix x3 8).bind fun i16 =>
                  if (2 : Int32) = 0 then none else
                  if ((z13.2.1 81 v0 0) / (2 : Int32)) ≤ (z13.1 - (z13.2.1 146 (v0 + 14) i16)) then
                    b_M_read_164 f v0 v1 x3 (v0 + 16) x3 z13.2
                  else
                    if z13.1 = (64 : Int32) then
                      b_M_read_164 f v0 v1 x3 (v0 + 16) x3 z13.2
                    else
                      b_M_read_168 f v0 v1 x3 (v0 + 16) x3 z13.2
              else
                b_M_read_164 f v0 v1 x3 (v0 + 16) x3 z13.2
            else
              b_M_read_91 f v0 z2.2
      else
        (r_M_fails v0 (2 : Int32) z2.2).bind fun z18 =>
        some (.inl (some (.inl z18.1), z18.2)) := rfl
set_option maxRecDepth 100000 in
set_option maxHeartbeats 4000000 in
theorem b_M_read_91_eq (f : Nat) (v0 : Nat) (m : Mm) : b_M_read_91 (f + 1) v0 m =
    (r_M_fails v0 (4 : Int32) m).bind fun z1 =>
    some (.inl (some (.inl z1.1), z1.2)) := rfl
set_option maxRecDepth 100000 in
set_option maxHeartbeats 4000000 in
theorem b_M_read_164_eq (f : Nat) (v0 : Nat) (v1 : Int32) (v3 : Int32) (u0 : Nat) (u1 : Int32) (m : Mm) : b_M_read_164 (f + 1) v0 v1 v3 u0 u1 m =
    b_M_read_169 f v0 v1 v3 u0 u1 (1 : Int32) m := rfl
set_option maxRecDepth 100000 in
set_option maxHeartbeats 4000000 in
theorem b_M_read_168_eq (f : Nat) (v0 : Nat) (v1 : Int32) (v3 : Int32) (u0 : Nat) (u1 : Int32) (m : Mm) : b_M_read_168 (f + 1) v0 v1 v3 u0 u1 m =
    b_M_read_169 f v0 v1 v3 u0 u1 (0 : Int32) m := rfl
set_option maxRecDepth 100000 in
set_option maxHeartbeats 4000000 in
theorem b_M_read_169_eq (f : Nat) (v0 : Nat) (v1 : Int32) (v3 : Int32) (u0 : Nat) (u1 : Int32) (u2 : Int32) (m : Mm) : b_M_read_169 (f + 1) v0 v1 v3 u0 u1 u2 m =
    (ab_ix u1 8).bind fun i1 =>
    (ab_bo u2).bind fun y3 =>
    ab_let (ab_uI m 148 u0 i1 y3) fun m2 =>
    (r_M_lookAll v0 v1 m2).bind fun m4 =>
    (ab_ix v3 8).bind fun i5 =>
    (ab_ix ((((64 : Int32) * v3) + (m4.1 145 (v0 + 13) i5)) - (1 : Int32)) 512).bind fun i6 =>
    some (.inl (some (.inl (m4.1 142 (v0 + 10) i6)), m4)) := rfl
noncomputable def r_M_read : Nat → Int32 → Int32 → Mm → Option (Int32 × Mm) := ab_seal fun v0 v1 v2 m => ab_rI (b_M_read_0 50000 v0 v1 v2 m)
theorem r_M_read_eq (v0 : Nat) (v1 : Int32) (v2 : Int32) (m : Mm) : r_M_read v0 v1 v2 m = ab_rI (b_M_read_0 50000 v0 v1 v2 m) := by
  unfold r_M_read
  rw [ab_seal_eq]
noncomputable def c_M_read : List AV → Mm → Option (Int32 × Mm) := fun av m => match av with
  | [.inr (.inr (kv0, ov0)), .inl v1, .inl v2] => if kv0 = 28 then (ov0.bind fun v0 => r_M_read v0 v1 v2 m) else none
  | _ => none
theorem c_M_read_inv {av : List AV} {m : Mm} {r : Int32 × Mm} (h : c_M_read av m = some r) : ∃ (v0 : Nat) (v1 : Int32) (v2 : Int32), av = [.inr (.inr (28, some v0)), .inl v1, .inl v2] ∧ r_M_read v0 v1 v2 m = some r := by
  unfold c_M_read at h
  split at h
  · rename_i kv0 ov0 v1 v2
    by_cases hkv0 : kv0 = 28
    case neg => rw [if_neg hkv0] at h; cases h
    rw [if_pos hkv0] at h
    subst hkv0
    obtain ⟨v0, hev0, h⟩ := Option.bind_eq_some_iff.mp h
    subst hev0
    exact ⟨v0, v1, v2, rfl, h⟩
  · cases h
def cs_M_read : List Nat := [7, 15, 36, 57, 93, 109, 172]
set_option maxRecDepth 100000 in
theorem E_M_read : ∀ (pc : Nat) (q : Ent), i_M_read pc = some q → ab_E KT CL ab_gW "StreamTransportModel" "read" (some .int) prog_12_method_9_code s_M_read 5 pc q.1 q.2.1 q.2.2.1 q.2.2.2.1 q.2.2.2.2 := fun pc q hq =>
  ab_Eb_ok lc_M lj_M fl_M (fpn_M "read") nw_M na_M nq_M (ab_tab_all (t := t_M_read) (chk := fun pc q => ab_Eb (some .int) prog_12_method_9_code s_M_read 5 LC_M LJ_M FL_M FPn_M NW_M NA_M NQ_M pc q.1 q.2.1 q.2.2.1 q.2.2.2.1 q.2.2.2.2) (by decide +kernel) hq)
set_option maxRecDepth 100000 in
theorem kp_M_read {av : List AV} {m : Mm} {r : Int32 × Mm} (h : c_M_read av m = some r) : ab_kp m r.2 := by
  obtain ⟨v0, v1, v2, -, h⟩ := c_M_read_inv h
  rw [r_M_read_eq] at h
  have hV : ∀ a av m m', eV_M_read a av m = some m' → ab_kp m m' := ab_ev_all (P := fun _ m r => ab_kp m r) [(108, c_M_lookAll)] (List.forall_mem_cons.mpr ⟨fun av m r h => kp_M_lookAll h, fun q hq => by cases hq⟩)
  have hI : ∀ a av m q, eI_M_read a av m = some q → ab_kp m q.2 := ab_ev_all (P := fun _ (m : Mm) (r : Int32 × Mm) => ab_kp m r.2) [(105, c_M_isStream), (103, c_M_fails), (106, c_M_streamTarget)] (List.forall_mem_cons.mpr ⟨fun av m r h => kp_M_isStream h, List.forall_mem_cons.mpr ⟨fun av m r h => kp_M_fails h, List.forall_mem_cons.mpr ⟨fun av m r h => kp_M_streamTarget h, fun q hq => by cases hq⟩⟩⟩)
  exact ab_kprel (ρ := .inl (some (.inl r.1), r.2)) (ab_tab_isn (t := t_M_read) (by decide +kernel)) hV hI (ab_rI_inv h)
set_option maxRecDepth 100000 in
theorem cl_M_read (l : Launch) : ∀ (pc : Nat) (q : Ent), i_M_read pc = some q → ab_inv q.1 = true → ab_CR l KT CL none ab_gW "StreamTransportModel" prog_12_method_9_code 5 2 45 eV_M_read eI_M_read pc q := by
  intro pc q hq hi
  have hm : pc ∈ cs_M_read := ab_tab_cs (t := t_M_read) (by decide +kernel) hq hi
  simp only [cs_M_read, List.mem_cons, List.not_mem_nil, or_false] at hm
  rcases hm with rfl | rfl | rfl | rfl | rfl | rfl | rfl
  · cases (Option.some.inj hq : ((.invokestatic 142, 105, 2, 1, 0) : Ent) = q)
    exact ab_crS (by decide +kernel) cw_M_isStream (ab_gW_in 1151 (by decide +kernel) rfl) st_M_isStream (by decide) (fun av m m' h => by cases h) (fun av m r h => cm_M_isStream l h) KT_nd
  · cases (Option.some.inj hq : ((.invokevirtual 146, 103, 2, 1, 0) : Ent) = q)
    exact ab_crV (C := "StreamTransportModel") (by decide +kernel) cw_M_fails (ab_gW_in 1157 (by decide +kernel) rfl) is_M_fails sl_M_fails (by decide) (fun av m m' h => by cases h) (fun av m r h => cm_M_fails l h) KT_nd
  · cases (Option.some.inj hq : ((.invokevirtual 146, 103, 2, 1, 0) : Ent) = q)
    exact ab_crV (C := "StreamTransportModel") (by decide +kernel) cw_M_fails (ab_gW_in 1157 (by decide +kernel) rfl) is_M_fails sl_M_fails (by decide) (fun av m m' h => by cases h) (fun av m r h => cm_M_fails l h) KT_nd
  · cases (Option.some.inj hq : ((.invokevirtual 146, 103, 2, 1, 0) : Ent) = q)
    exact ab_crV (C := "StreamTransportModel") (by decide +kernel) cw_M_fails (ab_gW_in 1157 (by decide +kernel) rfl) is_M_fails sl_M_fails (by decide) (fun av m m' h => by cases h) (fun av m r h => cm_M_fails l h) KT_nd
  · cases (Option.some.inj hq : ((.invokevirtual 146, 103, 2, 1, 0) : Ent) = q)
    exact ab_crV (C := "StreamTransportModel") (by decide +kernel) cw_M_fails (ab_gW_in 1157 (by decide +kernel) rfl) is_M_fails sl_M_fails (by decide) (fun av m m' h => by cases h) (fun av m r h => cm_M_fails l h) KT_nd
  · cases (Option.some.inj hq : ((.invokevirtual 152, 106, 2, 1, 0) : Ent) = q)
    exact ab_crV (C := "StreamTransportModel") (by decide +kernel) cw_M_streamTarget (ab_gW_in 1174 (by decide +kernel) rfl) is_M_streamTarget sl_M_streamTarget (by decide) (fun av m m' h => by cases h) (fun av m r h => cm_M_streamTarget l h) KT_nd
  · cases (Option.some.inj hq : ((.invokevirtual 155, 108, 2, 0, 0) : Ent) = q)
    exact ab_crV (C := "StreamTransportModel") (by decide +kernel) cw_M_lookAll (ab_gW_in 1178 (by decide +kernel) rfl) is_M_lookAll sl_M_lookAll (by decide) (fun av m m' h => cm_M_lookAll l h) (fun av m r h => by cases h) KT_nd
theorem cw_M_read : ab_cw y_M_read prog_12_method_9_code 5 2 (some .int) := ⟨ab_gW_in 1173 (by decide +kernel) rfl, ab_gW_in 71 (by decide +kernel) rfl, by decide +kernel, by decide +kernel, by decide +kernel⟩
theorem is_M_read : Cond.instanceMethod y_M_read ∈ ab_gW := ab_gW_in 1171 (by decide +kernel) rfl
theorem sl_M_read : Cond.selects "StreamTransportModel" y_M_read y_M_read ∈ ab_gW := ab_gW_in 1172 (by decide +kernel) rfl
set_option maxRecDepth 100000 in
theorem cm_M_read (l : Launch) {av : List AV} {m : Mm} {r : Int32 × Mm} (h0 : c_M_read av m = some r) : ∃ (k q : Nat) (av' : List AV) (ci : Nat) (fs : List (Nat × Nat × Nat × Nat)) (z : vw_C), av = .inr (.inr (k, some q)) :: av' ∧ av'.length = 2 ∧ k ≠ 0 ∧ KT[k]? = some (.inl (ci, fs)) ∧ CL[ci]? = some z ∧ z.1 = "StreamTransportModel" ∧ ab_nos av' ∧ ab_Met l KT CL y_M_read (Cond.code y_M_read prog_12_method_9_code 5 (some .int) :: ab_gW) 2 45 none av m (some (.inl r.1)) r.2 := by
  obtain ⟨v0, v1, v2, hav, h⟩ := c_M_read_inv h0
  rw [r_M_read_eq] at h
  have hmo : ab_mo m r.2 := ab_kp_mo (kp_M_read h0)
  subst hav
  exact ⟨_, _, _, _, _, _, rfl, rfl, by decide, rfl, rfl, rfl, (by intro v hv q e; subst e; simp at hv), ab_met (by decide +kernel) KT_0 KT_nd KT_k3 E_M_read (cl_M_read l) hmo (Nat.le_of_ble_eq_true rfl) (ab_rI_inv h) (fun v hv => by cases hv; exact ⟨_, rfl⟩)⟩
/-! StreamTransportModel.close(II)Z -/
def y_M_close : MethodName := ⟨"StreamTransportModel", "close", "(II)Z"⟩
def t_M_close (pc : Nat) : Option Ent :=
  bif Nat.blt pc 27 then
    (bif Nat.blt pc 14 then
      (bif Nat.blt pc 6 then
        (bif Nat.blt pc 2 then
          (bif Nat.blt pc 1 then
            (bif Nat.beq pc 0 then some (.aload_n 0, 0, 0, 0, 0) else none)
          else
            bif Nat.beq pc 1 then some (.iconst 0, 0, 0, 0, 0) else none)
        else
          bif Nat.blt pc 5 then
            (bif Nat.beq pc 2 then some (.putfield 135, 10, 3, 0, 0) else none)
          else
            bif Nat.beq pc 5 then some (.iload_n 1, 1, 0, 0, 0) else none)
      else
        bif Nat.blt pc 8 then
          (bif Nat.blt pc 7 then
            (bif Nat.beq pc 6 then some (.iconst 0, 0, 0, 0, 0) else none)
          else
            bif Nat.beq pc 7 then some (.iconst 1, 0, 0, 0, 1) else none)
        else
          bif Nat.blt pc 11 then
            (bif Nat.beq pc 8 then some (.invokestatic 138, 104, 3, 1, 0) else none)
          else
            bif Nat.beq pc 11 then some (.ifCond .eq (22), 33, 0, 0, 0) else none)
    else
      bif Nat.blt pc 20 then
        (bif Nat.blt pc 18 then
          (bif Nat.blt pc 15 then
            (bif Nat.beq pc 14 then some (.aload_n 0, 0, 0, 0, 0) else none)
          else
            bif Nat.beq pc 15 then some (.getfield 74, 10, 25, 1, 0) else none)
        else
          bif Nat.blt pc 19 then
            (bif Nat.beq pc 18 then some (.iload_n 1, 1, 0, 0, 0) else none)
          else
            bif Nat.beq pc 19 then some (.iaload, 0, 0, 0, 0) else none)
      else
        bif Nat.blt pc 24 then
          (bif Nat.blt pc 23 then
            (bif Nat.beq pc 20 then some (.ifCond .ge (13), 33, 0, 0, 0) else none)
          else
            bif Nat.beq pc 23 then some (.iload_n 2, 2, 0, 0, 0) else none)
        else
          bif Nat.blt pc 25 then
            (bif Nat.beq pc 24 then some (.iconst 0, 0, 0, 0, 0) else none)
          else
            bif Nat.beq pc 25 then some (.bipush 63, 0, 0, 0, 63) else none)
  else
    bif Nat.blt pc 41 then
      (bif Nat.blt pc 35 then
        (bif Nat.blt pc 33 then
          (bif Nat.blt pc 30 then
            (bif Nat.beq pc 27 then some (.invokestatic 138, 104, 3, 1, 0) else none)
          else
            bif Nat.beq pc 30 then some (.ifCond .ne (5), 35, 0, 0, 0) else none)
        else
          bif Nat.blt pc 34 then
            (bif Nat.beq pc 33 then some (.iconst 0, 0, 0, 0, 0) else none)
          else
            bif Nat.beq pc 34 then some (.ireturn, 0, 0, 1, 0) else none)
      else
        bif Nat.blt pc 39 then
          (bif Nat.blt pc 36 then
            (bif Nat.beq pc 35 then some (.aload_n 0, 0, 0, 0, 0) else none)
          else
            bif Nat.beq pc 36 then some (.getfield 74, 10, 25, 1, 0) else none)
        else
          bif Nat.blt pc 40 then
            (bif Nat.beq pc 39 then some (.iload_n 1, 1, 0, 0, 0) else none)
          else
            bif Nat.beq pc 40 then some (.iload_n 2, 2, 0, 0, 0) else none)
    else
      bif Nat.blt pc 47 then
        (bif Nat.blt pc 43 then
          (bif Nat.blt pc 42 then
            (bif Nat.beq pc 41 then some (.iastore, 0, 0, 0, 0) else none)
          else
            bif Nat.beq pc 42 then some (.aload_n 0, 0, 0, 0, 0) else none)
        else
          bif Nat.blt pc 46 then
            (bif Nat.beq pc 43 then some (.getfield 89, 10, 30, 1, 0) else none)
          else
            bif Nat.beq pc 46 then some (.iload_n 1, 1, 0, 0, 0) else none)
      else
        bif Nat.blt pc 49 then
          (bif Nat.blt pc 48 then
            (bif Nat.beq pc 47 then some (.iconst 1, 0, 0, 0, 1) else none)
          else
            bif Nat.beq pc 48 then some (.bastore, 0, 0, 0, 0) else none)
        else
          bif Nat.blt pc 50 then
            (bif Nat.beq pc 49 then some (.iconst 1, 0, 0, 0, 1) else none)
          else
            bif Nat.beq pc 50 then some (.ireturn, 0, 0, 1, 0) else none
def i_M_close : Nat → Option Ent := ab_tab 51 t_M_close
def h_M_close (pc : Nat) : Nat × List Bool := (0, [])
def s_M_close (pc : Nat) : List (Int32 × Nat) × Nat := ([], 0)
noncomputable def eV_M_close : Nat → List AV → Mm → Option Mm := ab_ev []
noncomputable def eI_M_close : Nat → List AV → Mm → Option (Int32 × Mm) := ab_ev [(104, c_M_in)]
noncomputable def b_M_close_0 (f : Nat) (v0 : Nat) (v1 : Int32) (v2 : Int32) (m : Mm) : Option Rs := ab_ex KT none s_M_close eV_M_close eI_M_close i_M_close h_M_close f 0 [some (.inr (.inr (28, some v0))), some (.inl v1), some (.inl v2)] [] m
set_option maxRecDepth 100000 in
set_option maxHeartbeats 4000000 in
theorem b_M_close_0_eq (f : Nat) (v0 : Nat) (v1 : Int32) (v2 : Int32) (m : Mm) : b_M_close_0 (f + 1) v0 v1 v2 m =
    ab_let (ab_uI m 84 v0 0 (0 : Int32)) fun m1 =>
    (r_M_in v1 (0 : Int32) (1 : Int32) m1).bind fun z2 =>
    if z2.1 = 0 then
      (ab_bo (0 : Int32)).bind fun y3 => some (.inl (some (.inl y3), z2.2))
    else
      (ab_ix v1 2).bind fun i4 =>
      if 0 ≤ (z2.2.1 154 (v0 + 22) i4) then
        (ab_bo (0 : Int32)).bind fun y5 => some (.inl (some (.inl y5), z2.2))
      else
        (r_M_in v2 (0 : Int32) (63 : Int32) z2.2).bind fun z6 =>
        if z6.1 = 0 then
          (ab_bo (0 : Int32)).bind fun y13 => some (.inl (some (.inl y13), z6.2))
        else
          (ab_ix v1 2).bind fun i7 =>
          ab_let (ab_uI z6.2 154 (v0 + 22) i7 v2) fun m8 =>
          (ab_ix v1 2).bind fun i9 =>
          (ab_bo (1 : Int32)).bind fun y11 =>
          ab_let (ab_uI m8 159 (v0 + 27) i9 y11) fun m10 =>
          (ab_bo (1 : Int32)).bind fun y12 => some (.inl (some (.inl y12), m10)) := rfl
noncomputable def r_M_close : Nat → Int32 → Int32 → Mm → Option (Int32 × Mm) := ab_seal fun v0 v1 v2 m => ab_rI (b_M_close_0 50000 v0 v1 v2 m)
theorem r_M_close_eq (v0 : Nat) (v1 : Int32) (v2 : Int32) (m : Mm) : r_M_close v0 v1 v2 m = ab_rI (b_M_close_0 50000 v0 v1 v2 m) := by
  unfold r_M_close
  rw [ab_seal_eq]
noncomputable def c_M_close : List AV → Mm → Option (Int32 × Mm) := fun av m => match av with
  | [.inr (.inr (kv0, ov0)), .inl v1, .inl v2] => if kv0 = 28 then (ov0.bind fun v0 => r_M_close v0 v1 v2 m) else none
  | _ => none
theorem c_M_close_inv {av : List AV} {m : Mm} {r : Int32 × Mm} (h : c_M_close av m = some r) : ∃ (v0 : Nat) (v1 : Int32) (v2 : Int32), av = [.inr (.inr (28, some v0)), .inl v1, .inl v2] ∧ r_M_close v0 v1 v2 m = some r := by
  unfold c_M_close at h
  split at h
  · rename_i kv0 ov0 v1 v2
    by_cases hkv0 : kv0 = 28
    case neg => rw [if_neg hkv0] at h; cases h
    rw [if_pos hkv0] at h
    subst hkv0
    obtain ⟨v0, hev0, h⟩ := Option.bind_eq_some_iff.mp h
    subst hev0
    exact ⟨v0, v1, v2, rfl, h⟩
  · cases h
def cs_M_close : List Nat := [8, 27]
set_option maxRecDepth 100000 in
theorem E_M_close : ∀ (pc : Nat) (q : Ent), i_M_close pc = some q → ab_E KT CL ab_gW "StreamTransportModel" "close" (some .boolean) prog_12_method_13_code s_M_close 3 pc q.1 q.2.1 q.2.2.1 q.2.2.2.1 q.2.2.2.2 := fun pc q hq =>
  ab_Eb_ok lc_M lj_M fl_M (fpn_M "close") nw_M na_M nq_M (ab_tab_all (t := t_M_close) (chk := fun pc q => ab_Eb (some .boolean) prog_12_method_13_code s_M_close 3 LC_M LJ_M FL_M FPn_M NW_M NA_M NQ_M pc q.1 q.2.1 q.2.2.1 q.2.2.2.1 q.2.2.2.2) (by decide +kernel) hq)
set_option maxRecDepth 100000 in
theorem kp_M_close {av : List AV} {m : Mm} {r : Int32 × Mm} (h : c_M_close av m = some r) : ab_kp m r.2 := by
  obtain ⟨v0, v1, v2, -, h⟩ := c_M_close_inv h
  rw [r_M_close_eq] at h
  have hV : ∀ a av m m', eV_M_close a av m = some m' → ab_kp m m' := ab_ev_all (P := fun _ m r => ab_kp m r) [] (fun q hq => by cases hq)
  have hI : ∀ a av m q, eI_M_close a av m = some q → ab_kp m q.2 := ab_ev_all (P := fun _ (m : Mm) (r : Int32 × Mm) => ab_kp m r.2) [(104, c_M_in)] (List.forall_mem_cons.mpr ⟨fun av m r h => kp_M_in h, fun q hq => by cases hq⟩)
  exact ab_kprel (ρ := .inl (some (.inl r.1), r.2)) (ab_tab_isn (t := t_M_close) (by decide +kernel)) hV hI (ab_rI_inv h)
set_option maxRecDepth 100000 in
theorem cl_M_close (l : Launch) : ∀ (pc : Nat) (q : Ent), i_M_close pc = some q → ab_inv q.1 = true → ab_CR l KT CL none ab_gW "StreamTransportModel" prog_12_method_13_code 3 1 22 eV_M_close eI_M_close pc q := by
  intro pc q hq hi
  have hm : pc ∈ cs_M_close := ab_tab_cs (t := t_M_close) (by decide +kernel) hq hi
  simp only [cs_M_close, List.mem_cons, List.not_mem_nil, or_false] at hm
  rcases hm with rfl | rfl
  · cases (Option.some.inj hq : ((.invokestatic 138, 104, 3, 1, 0) : Ent) = q)
    exact ab_crS (by decide +kernel) cw_M_in (ab_gW_in 1154 (by decide +kernel) rfl) st_M_in (by decide) (fun av m m' h => by cases h) (fun av m r h => cm_M_in l h) KT_nd
  · cases (Option.some.inj hq : ((.invokestatic 138, 104, 3, 1, 0) : Ent) = q)
    exact ab_crS (by decide +kernel) cw_M_in (ab_gW_in 1154 (by decide +kernel) rfl) st_M_in (by decide) (fun av m m' h => by cases h) (fun av m r h => cm_M_in l h) KT_nd
theorem cw_M_close : ab_cw y_M_close prog_12_method_13_code 3 2 (some .boolean) := ⟨ab_gW_in 1189 (by decide +kernel) rfl, ab_gW_in 71 (by decide +kernel) rfl, by decide +kernel, by decide +kernel, by decide +kernel⟩
theorem is_M_close : Cond.instanceMethod y_M_close ∈ ab_gW := ab_gW_in 1187 (by decide +kernel) rfl
theorem sl_M_close : Cond.selects "StreamTransportModel" y_M_close y_M_close ∈ ab_gW := ab_gW_in 1188 (by decide +kernel) rfl
set_option maxRecDepth 100000 in
theorem cm_M_close (l : Launch) {av : List AV} {m : Mm} {r : Int32 × Mm} (h0 : c_M_close av m = some r) : ∃ (k q : Nat) (av' : List AV) (ci : Nat) (fs : List (Nat × Nat × Nat × Nat)) (z : vw_C), av = .inr (.inr (k, some q)) :: av' ∧ av'.length = 2 ∧ k ≠ 0 ∧ KT[k]? = some (.inl (ci, fs)) ∧ CL[ci]? = some z ∧ z.1 = "StreamTransportModel" ∧ ab_nos av' ∧ ab_Met l KT CL y_M_close (Cond.code y_M_close prog_12_method_13_code 3 (some .boolean) :: ab_gW) 1 22 none av m (some (.inl r.1)) r.2 := by
  obtain ⟨v0, v1, v2, hav, h⟩ := c_M_close_inv h0
  rw [r_M_close_eq] at h
  have hmo : ab_mo m r.2 := ab_kp_mo (kp_M_close h0)
  subst hav
  exact ⟨_, _, _, _, _, _, rfl, rfl, by decide, rfl, rfl, rfl, (by intro v hv q e; subst e; simp at hv), ab_met (by decide +kernel) KT_0 KT_nd KT_k3 E_M_close (cl_M_close l) hmo (Nat.le_of_ble_eq_true rfl) (ab_rI_inv h) (fun v hv => by cases hv; exact ⟨_, rfl⟩)⟩
end
