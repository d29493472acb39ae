section
def FLp_Out : List ((Nat × Nat × Nat) × Nat) := [((9, 5, 0), 244), ((15, 5, 1), 246), ((18, 5, 7), 262), ((22, 5, 8), 263), ((25, 5, 4), 253), ((28, 5, 5), 256), ((32, 5, 6), 259), ((35, 5, 2), 248), ((46, 5, 3), 251), ((56, 8, 4), 417), ((61, 8, 5), 420), ((64, 8, 6), 423), ((68, 8, 7), 426)]
def FL_Out : List (Nat × Nat × Nat) := [(9, 5, 0), (15, 5, 1), (18, 5, 7), (22, 5, 8), (25, 5, 4), (28, 5, 5), (32, 5, 6), (35, 5, 2), (46, 5, 3), (56, 8, 4), (61, 8, 5), (64, 8, 6), (68, 8, 7)]
theorem fl_Out : ∀ q ∈ FL_Out, ab_fld CL ab_gW "StreamTransport$Outgoing" q.1 q.2.1 q.2.2 := ab_flb_ok (own := "StreamTransport$Outgoing") (l := FLp_Out) (by decide +kernel)
def FPnp_Out : List ((Nat × Nat × Nat) × Nat) := [((18, 5, 7), 262), ((22, 5, 8), 263), ((25, 5, 4), 253), ((28, 5, 5), 256), ((32, 5, 6), 259), ((35, 5, 2), 248), ((46, 5, 3), 251)]
def FPn_Out : List (Nat × Nat × Nat) := [(18, 5, 7), (22, 5, 8), (25, 5, 4), (28, 5, 5), (32, 5, 6), (35, 5, 2), (46, 5, 3)]
theorem fpn_Out (nm : String) : ∀ q ∈ FPn_Out, ∃ ty, ab_fldp CL ab_gW "StreamTransport$Outgoing" nm q.1 q.2.1 q.2.2 ty ∧ ∀ (k t r k' d' : Nat), ab_fs KT q.2.1 q.2.2 k = some (t, r, k', d') → (t = 0 → ty = .int) ∧ (t = 1 → ty = .boolean) ∧ (t = 2 → ((∃ n, ty = .object n) ∨ ∃ t, ty = .array t) ∧ k' ≠ 0) := ab_fpb_ok (own := "StreamTransport$Outgoing") (nm := nm) (l := FPnp_Out) (ab_fpn_ok (by decide +kernel))
def FPip_Out : List ((Nat × Nat × Nat) × Nat) := [((9, 5, 0), 244), ((15, 5, 1), 246), ((18, 5, 7), 262), ((22, 5, 8), 263), ((25, 5, 4), 253), ((28, 5, 5), 256), ((32, 5, 6), 259), ((35, 5, 2), 248), ((46, 5, 3), 251)]
def FPi_Out : List (Nat × Nat × Nat) := [(9, 5, 0), (15, 5, 1), (18, 5, 7), (22, 5, 8), (25, 5, 4), (28, 5, 5), (32, 5, 6), (35, 5, 2), (46, 5, 3)]
theorem fpi_Out : ∀ q ∈ FPi_Out, ∃ ty, ab_fldp CL ab_gW "StreamTransport$Outgoing" "<init>" q.1 q.2.1 q.2.2 ty ∧ ∀ (k t r k' d' : Nat), ab_fs KT q.2.1 q.2.2 k = some (t, r, k', d') → (t = 0 → ty = .int) ∧ (t = 1 → ty = .boolean) ∧ (t = 2 → ((∃ n, ty = .object n) ∨ ∃ t, ty = .array t) ∧ k' ≠ 0) := ab_fpb_ok (own := "StreamTransport$Outgoing") (nm := "<init>") (l := FPip_Out) (by decide +kernel)
def LCp_Out : List ((Nat × Int32) × Nat) := []
def LC_Out : List (Nat × Int32) := []
theorem lc_Out : ∀ q ∈ LC_Out, Cond.constant "StreamTransport$Outgoing" q.1 q.2 ∈ ab_gW := ab_lcb (own := "StreamTransport$Outgoing") (l := LCp_Out) (by decide +kernel)
def LJp_Out : List ((Nat × Nat) × Nat) := []
def LJ_Out : List (Nat × Nat) := []
theorem lj_Out : ∀ q ∈ LJ_Out, Cond.constantLong "StreamTransport$Outgoing" q.1 (Int64.ofNat q.2) ∈ ab_gW := ab_ljb (own := "StreamTransport$Outgoing") (l := LJp_Out) (by decide +kernel)
def NWp_Out : List ((Nat × Nat) × Nat × Nat × Nat) := []
def NW_Out : List (Nat × Nat) := []
theorem nw_Out : ∀ q ∈ NW_Out, ab_newok KT CL ab_gW "StreamTransport$Outgoing" q.1 q.2 := ab_nwb_ok (own := "StreamTransport$Outgoing") (l := NWp_Out) (by decide +kernel)
def NQp_Out : List ((Nat × Nat) × Nat) := []
def NQ_Out : List (Nat × Nat) := []
theorem nq_Out : ∀ q ∈ NQ_Out, ab_nqok KT CL ab_gW "StreamTransport$Outgoing" q.1 q.2 := ab_nqb_ok (own := "StreamTransport$Outgoing") (l := NQp_Out) (by decide +kernel)
def NA_Out : List (Nat × Nat) := [(0, 20), (0, 21)]
theorem na_Out : ∀ q ∈ NA_Out, (q.1 = 0 → ab_naok KT CL ab_gW .int q.2) ∧ (q.1 = 1 → ab_naok KT CL ab_gW .boolean q.2) ∧ (q.1 = 2 → ab_naok KT CL ab_gW .long q.2) := ab_nab_ok (by decide +kernel)
/-! StreamTransport$Outgoing.isGrowing()Z -/
def y_Out_isGrowing : MethodName := ⟨"StreamTransport$Outgoing", "isGrowing", "()Z"⟩
def t_Out_isGrowing (pc : Nat) : Option Ent :=
  bif Nat.blt pc 11 then
    (bif Nat.blt pc 4 then
      (bif Nat.blt pc 1 then
        (bif Nat.beq pc 0 then some (.aload_n 0, 0, 0, 0, 0) else none)
      else
        bif Nat.beq pc 1 then some (.getfield 28, 5, 5, 0, 0) else none)
    else
      bif Nat.blt pc 7 then
        (bif Nat.beq pc 4 then some (.ifCond .ne (14), 18, 0, 0, 0) else none)
      else
        bif Nat.blt pc 8 then
          (bif Nat.beq pc 7 then some (.aload_n 0, 0, 0, 0, 0) else none)
        else
          bif Nat.beq pc 8 then some (.getfield 32, 5, 6, 0, 0) else none)
  else
    bif Nat.blt pc 15 then
      (bif Nat.blt pc 14 then
        (bif Nat.beq pc 11 then some (.ifCond .ne (7), 18, 0, 0, 0) else none)
      else
        bif Nat.beq pc 14 then some (.iconst 1, 0, 0, 0, 1) else none)
    else
      bif Nat.blt pc 18 then
        (bif Nat.beq pc 15 then some (.goto 4, 19, 0, 0, 0) else none)
      else
        bif Nat.blt pc 19 then
          (bif Nat.beq pc 18 then some (.iconst 0, 0, 0, 0, 0) else none)
        else
          bif Nat.beq pc 19 then some (.ireturn, 0, 0, 1, 0) else none
def i_Out_isGrowing : Nat → Option Ent := ab_tab 20 t_Out_isGrowing
def h_Out_isGrowing (pc : Nat) : Nat × List Bool := (0, [])
def s_Out_isGrowing (pc : Nat) : List (Int32 × Nat) × Nat := ([], 0)
noncomputable def eV_Out_isGrowing : Nat → List AV → Mm → Option Mm := ab_ev []
noncomputable def eI_Out_isGrowing : Nat → List AV → Mm → Option (Int32 × Mm) := ab_ev []
noncomputable def b_Out_isGrowing_0 (f : Nat) (v0 : Nat) (m : Mm) : Option Rs := ab_ex KT none s_Out_isGrowing eV_Out_isGrowing eI_Out_isGrowing i_Out_isGrowing h_Out_isGrowing f 0 [some (.inr (.inr (19, some v0)))] [] m
set_option maxRecDepth 100000 in
set_option maxHeartbeats 4000000 in
theorem b_Out_isGrowing_0_eq (f : Nat) (v0 : Nat) (m : Mm) : b_Out_isGrowing_0 (f + 1) v0 m =
    if (m.1 62 v0 0) = 0 then
      if (m.1 63 v0 0) = 0 then
        (ab_bo (1 : Int32)).bind fun y3 => some (.inl (some (.inl y3), m))
      else
        (ab_bo (0 : Int32)).bind fun y2 => some (.inl (some (.inl y2), m))
    else
      (ab_bo (0 : Int32)).bind fun y1 => some (.inl (some (.inl y1), m)) := rfl
noncomputable def r_Out_isGrowing : Nat → Mm → Option (Int32 × Mm) := ab_seal fun v0 m => ab_rI (b_Out_isGrowing_0 50000 v0 m)
theorem r_Out_isGrowing_eq (v0 : Nat) (m : Mm) : r_Out_isGrowing v0 m = ab_rI (b_Out_isGrowing_0 50000 v0 m) := by
  unfold r_Out_isGrowing
  rw [ab_seal_eq]
noncomputable def c_Out_isGrowing : List AV → Mm → Option (Int32 × Mm) := fun av m => match av with
  | [.inr (.inr (kv0, ov0))] => if kv0 = 19 then (ov0.bind fun v0 => r_Out_isGrowing v0 m) else none
  | _ => none
theorem c_Out_isGrowing_inv {av : List AV} {m : Mm} {r : Int32 × Mm} (h : c_Out_isGrowing av m = some r) : ∃ (v0 : Nat), av = [.inr (.inr (19, some v0))] ∧ r_Out_isGrowing v0 m = some r := by
  unfold c_Out_isGrowing at h
  split at h
  · rename_i kv0 ov0
    by_cases hkv0 : kv0 = 19
    case neg => rw [if_neg hkv0] at h; cases h
    rw [if_pos hkv0] at h
    subst hkv0
    obtain ⟨v0, hev0, h⟩ := Option.bind_eq_some_iff.mp h
    subst hev0
    exact ⟨v0, rfl, h⟩
  · cases h
def cs_Out_isGrowing : List Nat := []
set_option maxRecDepth 100000 in
theorem E_Out_isGrowing : ∀ (pc : Nat) (q : Ent), i_Out_isGrowing pc = some q → ab_E KT CL ab_gW "StreamTransport$Outgoing" "isGrowing" (some .boolean) prog_7_method_2_code s_Out_isGrowing 1 pc q.1 q.2.1 q.2.2.1 q.2.2.2.1 q.2.2.2.2 := fun pc q hq =>
  ab_Eb_ok lc_Out lj_Out fl_Out (fpn_Out "isGrowing") nw_Out na_Out nq_Out (ab_tab_all (t := t_Out_isGrowing) (chk := fun pc q => ab_Eb (some .boolean) prog_7_method_2_code s_Out_isGrowing 1 LC_Out LJ_Out FL_Out FPn_Out NW_Out NA_Out NQ_Out pc q.1 q.2.1 q.2.2.1 q.2.2.2.1 q.2.2.2.2) (by decide +kernel) hq)
set_option maxRecDepth 100000 in
theorem kp_Out_isGrowing {av : List AV} {m : Mm} {r : Int32 × Mm} (h : c_Out_isGrowing av m = some r) : ab_kp m r.2 := by
  obtain ⟨v0, -, h⟩ := c_Out_isGrowing_inv h
  rw [r_Out_isGrowing_eq] at h
  have hV : ∀ a av m m', eV_Out_isGrowing a av m = some m' → ab_kp m m' := ab_ev_all (P := fun _ m r => ab_kp m r) [] (fun q hq => by cases hq)
  have hI : ∀ a av m q, eI_Out_isGrowing a av m = some q → ab_kp m q.2 := ab_ev_all (P := fun _ (m : Mm) (r : Int32 × Mm) => ab_kp m r.2) [] (fun q hq => by cases hq)
  exact ab_kprel (ρ := .inl (some (.inl r.1), r.2)) (ab_tab_isn (t := t_Out_isGrowing) (by decide +kernel)) hV hI (ab_rI_inv h)
set_option maxRecDepth 100000 in
theorem cl_Out_isGrowing (l : Launch) : ∀ (pc : Nat) (q : Ent), i_Out_isGrowing pc = some q → ab_inv q.1 = true → ab_CR l KT CL none ab_gW "StreamTransport$Outgoing" prog_7_method_2_code 1 0 0 eV_Out_isGrowing eI_Out_isGrowing pc q := by
  intro pc q hq hi
  have hm : pc ∈ cs_Out_isGrowing := ab_tab_cs (t := t_Out_isGrowing) (by decide +kernel) hq hi
  cases hm
theorem cw_Out_isGrowing : ab_cw y_Out_isGrowing prog_7_method_2_code 1 0 (some .boolean) := ⟨ab_gW_in 380 (by decide +kernel) rfl, ab_gW_in 70 (by decide +kernel) rfl, by decide +kernel, by decide +kernel, by decide +kernel⟩
theorem is_Out_isGrowing : Cond.instanceMethod y_Out_isGrowing ∈ ab_gW := ab_gW_in 378 (by decide +kernel) rfl
theorem sl_Out_isGrowing : Cond.selects "StreamTransport$Outgoing" y_Out_isGrowing y_Out_isGrowing ∈ ab_gW := ab_gW_in 379 (by decide +kernel) rfl
set_option maxRecDepth 100000 in
theorem cm_Out_isGrowing (l : Launch) {av : List AV} {m : Mm} {r : Int32 × Mm} (h0 : c_Out_isGrowing av m = some r) : ∃ (k q : Nat) (av' : List AV) (ci : Nat) (fs : List (Nat × Nat × Nat × Nat)) (z : vw_C), av = .inr (.inr (k, some q)) :: av' ∧ av'.length = 0 ∧ k ≠ 0 ∧ KT[k]? = some (.inl (ci, fs)) ∧ CL[ci]? = some z ∧ z.1 = "StreamTransport$Outgoing" ∧ ab_nos av' ∧ ab_Met l KT CL y_Out_isGrowing (Cond.code y_Out_isGrowing prog_7_method_2_code 1 (some .boolean) :: ab_gW) 0 0 none av m (some (.inl r.1)) r.2 := by
  obtain ⟨v0, hav, h⟩ := c_Out_isGrowing_inv h0
  rw [r_Out_isGrowing_eq] at h
  have hmo : ab_mo m r.2 := ab_kp_mo (kp_Out_isGrowing h0)
  subst hav
  exact ⟨_, _, _, _, _, _, rfl, rfl, by decide, rfl, rfl, rfl, (by intro v hv q e; subst e; simp at hv), ab_met (by decide +kernel) KT_0 KT_nd KT_k3 E_Out_isGrowing (cl_Out_isGrowing l) hmo (Nat.le_of_ble_eq_true rfl) (ab_rI_inv h) (fun v hv => by cases hv; exact ⟨_, rfl⟩)⟩
/-! StreamTransport$Outgoing.append(IJ)V -/
def y_Out_append : MethodName := ⟨"StreamTransport$Outgoing", "append", "(IJ)V"⟩
def t_Out_append (pc : Nat) : Option Ent :=
  bif Nat.blt pc 26 then
    (bif Nat.blt pc 10 then
      (bif Nat.blt pc 5 then
        (bif Nat.blt pc 1 then
          (bif Nat.beq pc 0 then some (.iconst 0, 0, 0, 0, 0) else none)
        else
          bif Nat.blt pc 3 then
            (bif Nat.beq pc 1 then some (.istore 4, 4, 0, 0, 0) else none)
          else
            bif Nat.beq pc 3 then some (.iload 4, 4, 0, 0, 0) else none)
      else
        bif Nat.blt pc 6 then
          (bif Nat.beq pc 5 then some (.iload_n 1, 1, 0, 0, 0) else none)
        else
          bif Nat.blt pc 9 then
            (bif Nat.beq pc 6 then some (.if_icmp .ge (43), 49, 0, 0, 0) else none)
          else
            bif Nat.beq pc 9 then some (.aload_n 0, 0, 0, 0, 0) else none)
    else
      bif Nat.blt pc 18 then
        (bif Nat.blt pc 13 then
          (bif Nat.beq pc 10 then some (.getfield 35, 5, 2, 0, 0) else none)
        else
          bif Nat.blt pc 15 then
            (bif Nat.beq pc 13 then some (.bipush 64, 0, 0, 0, 64) else none)
          else
            bif Nat.beq pc 15 then some (.if_icmp .ge (34), 49, 0, 0, 0) else none)
      else
        bif Nat.blt pc 22 then
          (bif Nat.blt pc 19 then
            (bif Nat.beq pc 18 then some (.aload_n 0, 0, 0, 0, 0) else none)
          else
            bif Nat.beq pc 19 then some (.getfield 9, 5, 0, 1, 0) else none)
        else
          bif Nat.blt pc 23 then
            (bif Nat.beq pc 22 then some (.aload_n 0, 0, 0, 0, 0) else none)
          else
            bif Nat.beq pc 23 then some (.getfield 35, 5, 2, 0, 0) else none)
  else
    bif Nat.blt pc 35 then
      (bif Nat.blt pc 32 then
        (bif Nat.blt pc 27 then
          (bif Nat.beq pc 26 then some (.lload_n 2, 2, 0, 0, 0) else none)
        else
          bif Nat.blt pc 29 then
            (bif Nat.beq pc 27 then some (.iload 4, 4, 0, 0, 0) else none)
          else
            bif Nat.beq pc 29 then some (.invokestatic 38, 5, 2, 1, 0) else none)
      else
        bif Nat.blt pc 33 then
          (bif Nat.beq pc 32 then some (.iastore, 0, 0, 0, 0) else none)
        else
          bif Nat.blt pc 34 then
            (bif Nat.beq pc 33 then some (.aload_n 0, 0, 0, 0, 0) else none)
          else
            bif Nat.beq pc 34 then some (.dup, 0, 0, 1, 0) else none)
    else
      bif Nat.blt pc 40 then
        (bif Nat.blt pc 38 then
          (bif Nat.beq pc 35 then some (.getfield 35, 5, 2, 0, 0) else none)
        else
          bif Nat.blt pc 39 then
            (bif Nat.beq pc 38 then some (.iconst 1, 0, 0, 0, 1) else none)
          else
            bif Nat.beq pc 39 then some (.iadd, 0, 0, 0, 0) else none)
      else
        bif Nat.blt pc 46 then
          (bif Nat.blt pc 43 then
            (bif Nat.beq pc 40 then some (.putfield 35, 5, 2, 0, 0) else none)
          else
            bif Nat.beq pc 43 then some (.iinc 4 1, 4, 0, 0, 1) else none)
        else
          bif Nat.blt pc 49 then
            (bif Nat.beq pc 46 then some (.goto (-43), 3, 0, 0, 0) else none)
          else
            bif Nat.beq pc 49 then some (.return_, 0, 0, 0, 0) else none
def i_Out_append : Nat → Option Ent := ab_tab 50 t_Out_append
def h_Out_append (pc : Nat) : Nat × List Bool := bif Nat.beq pc 3 then (1, [true, true, true, false, true]) else (0, [])
def s_Out_append (pc : Nat) : List (Int32 × Nat) × Nat := ([], 0)
noncomputable def eV_Out_append : Nat → List AV → Mm → Option Mm := ab_ev []
noncomputable def eI_Out_append : Nat → List AV → Mm → Option (Int32 × Mm) := ab_ev [(5, c_X_byteOf)]
noncomputable def b_Out_append_0 (f : Nat) (v0 : Nat) (v1 : Int32) (v2 : Int64) (m : Mm) : Option Rs := ab_ex KT none s_Out_append eV_Out_append eI_Out_append i_Out_append h_Out_append f 0 [some (.inr (.inr (19, some v0))), some (.inl v1), some (.inr (.inl v2)), none, none] [] m
noncomputable def b_Out_append_3 (f : Nat) (v0 : Nat) (v1 : Int32) (v2 : Int64) (v4 : Int32) (m : Mm) : Option Rs := ab_ex KT none s_Out_append eV_Out_append eI_Out_append i_Out_append h_Out_append f 3 [some (.inr (.inr (19, some v0))), some (.inl v1), some (.inr (.inl v2)), none, some (.inl v4)] [] m
set_option maxRecDepth 100000 in
set_option maxHeartbeats 4000000 in
theorem b_Out_append_0_eq (f : Nat) (v0 : Nat) (v1 : Int32) (v2 : Int64) (m : Mm) : b_Out_append_0 (f + 1) v0 v1 v2 m =
    b_Out_append_3 f v0 v1 v2 (0 : Int32) m := rfl
set_option maxRecDepth 100000 in
set_option maxHeartbeats 4000000 in
theorem b_Out_append_3_eq (f : Nat) (v0 : Nat) (v1 : Int32) (v2 : Int64) (v4 : Int32) (m : Mm) : b_Out_append_3 (f + 1) v0 v1 v2 v4 m =
    if v1 ≤ v4 then
      some (.inl (none, m))
    else
      if (64 : Int32) ≤ (m.1 59 v0 0) then
        some (.inl (none, m))
      else
        (r_X_byteOf v2 v4 m).bind fun z1 =>
        (ab_ix (m.1 59 v0 0) 64).bind fun i2 =>
        ab_let (ab_uI z1.2 66 (v0 + 1) i2 z1.1) fun m3 =>
        ab_let (ab_uI m3 59 v0 0 ((m3.1 59 v0 0) + (1 : Int32))) fun m4 =>
        ab_let (v4 + (1 : Int32)) fun x5 =>
        b_Out_append_3 f v0 v1 v2 x5 m4 := rfl
noncomputable def r_Out_append : Nat → Int32 → Int64 → Mm → Option Mm := ab_seal fun v0 v1 v2 m => ab_rV (b_Out_append_0 50000 v0 v1 v2 m)
theorem r_Out_append_eq (v0 : Nat) (v1 : Int32) (v2 : Int64) (m : Mm) : r_Out_append v0 v1 v2 m = ab_rV (b_Out_append_0 50000 v0 v1 v2 m) := by
  unfold r_Out_append
  rw [ab_seal_eq]
noncomputable def c_Out_append : List AV → Mm → Option Mm := fun av m => match av with
  | [.inr (.inr (kv0, ov0)), .inl v1, .inr (.inl v2)] => if kv0 = 19 then (ov0.bind fun v0 => r_Out_append v0 v1 v2 m) else none
  | _ => none
theorem c_Out_append_inv {av : List AV} {m : Mm} {r : Mm} (h : c_Out_append av m = some r) : ∃ (v0 : Nat) (v1 : Int32) (v2 : Int64), av = [.inr (.inr (19, some v0)), .inl v1, .inr (.inl v2)] ∧ r_Out_append v0 v1 v2 m = some r := by
  unfold c_Out_append at h
  split at h
  · rename_i kv0 ov0 v1 v2
    by_cases hkv0 : kv0 = 19
    case neg => rw [if_neg hkv0] at h; cases h
    rw [if_pos hkv0] at h
    subst hkv0
    obtain ⟨v0, hev0, h⟩ := Option.bind_eq_some_iff.mp h
    subst hev0
    exact ⟨v0, v1, v2, rfl, h⟩
  · cases h
def cs_Out_append : List Nat := [29]
set_option maxRecDepth 100000 in
theorem E_Out_append : ∀ (pc : Nat) (q : Ent), i_Out_append pc = some q → ab_E KT CL ab_gW "StreamTransport$Outgoing" "append" none prog_7_method_3_code s_Out_append 5 pc q.1 q.2.1 q.2.2.1 q.2.2.2.1 q.2.2.2.2 := fun pc q hq =>
  ab_Eb_ok lc_Out lj_Out fl_Out (fpn_Out "append") nw_Out na_Out nq_Out (ab_tab_all (t := t_Out_append) (chk := fun pc q => ab_Eb none prog_7_method_3_code s_Out_append 5 LC_Out LJ_Out FL_Out FPn_Out NW_Out NA_Out NQ_Out pc q.1 q.2.1 q.2.2.1 q.2.2.2.1 q.2.2.2.2) (by decide +kernel) hq)
set_option maxRecDepth 100000 in
theorem kp_Out_append {av : List AV} {m : Mm} {r : Mm} (h : c_Out_append av m = some r) : ab_kp m r := by
  obtain ⟨v0, v1, v2, -, h⟩ := c_Out_append_inv h
  rw [r_Out_append_eq] at h
  have hV : ∀ a av m m', eV_Out_append a av m = some m' → ab_kp m m' := ab_ev_all (P := fun _ m r => ab_kp m r) [] (fun q hq => by cases hq)
  have hI : ∀ a av m q, eI_Out_append a av m = some q → ab_kp m q.2 := ab_ev_all (P := fun _ (m : Mm) (r : Int32 × Mm) => ab_kp m r.2) [(5, c_X_byteOf)] (List.forall_mem_cons.mpr ⟨fun av m r h => kp_X_byteOf h, fun q hq => by cases hq⟩)
  exact ab_kprel (ρ := .inl (none, r)) (ab_tab_isn (t := t_Out_append) (by decide +kernel)) hV hI (ab_rV_inv h)
set_option maxRecDepth 100000 in
theorem cl_Out_append (l : Launch) : ∀ (pc : Nat) (q : Ent), i_Out_append pc = some q → ab_inv q.1 = true → ab_CR l KT CL none ab_gW "StreamTransport$Outgoing" prog_7_method_3_code 5 1 22 eV_Out_append eI_Out_append pc q := by
  intro pc q hq hi
  have hm : pc ∈ cs_Out_append := ab_tab_cs (t := t_Out_append) (by decide +kernel) hq hi
  simp only [cs_Out_append, List.mem_cons, List.not_mem_nil, or_false] at hm
  rcases hm with rfl
  · cases (Option.some.inj hq : ((.invokestatic 38, 5, 2, 1, 0) : Ent) = q)
    exact ab_crSN (by decide +kernel) cw_X_byteOf (by decide +kernel) st_X_byteOf (by decide) (fun av m m' h => by cases h) (fun av m r h => cm_X_byteOf l h) KT_nd
theorem cw_Out_append : ab_cw y_Out_append prog_7_method_3_code 5 2 none := ⟨ab_gW_in 931 (by decide +kernel) rfl, ab_gW_in 70 (by decide +kernel) rfl, by decide +kernel, by decide +kernel, by decide +kernel⟩
theorem is_Out_append : Cond.instanceMethod y_Out_append ∈ ab_gW := ab_gW_in 929 (by decide +kernel) rfl
theorem sl_Out_append : Cond.selects "StreamTransport$Outgoing" y_Out_append y_Out_append ∈ ab_gW := ab_gW_in 930 (by decide +kernel) rfl
set_option maxRecDepth 100000 in
theorem cm_Out_append (l : Launch) {av : List AV} {m : Mm} {r : Mm} (h0 : c_Out_append av m = some r) : ∃ (k q : Nat) (av' : List AV) (ci : Nat) (fs : List (Nat × Nat × Nat × Nat)) (z : vw_C), av = .inr (.inr (k, some q)) :: av' ∧ av'.length = 2 ∧ k ≠ 0 ∧ KT[k]? = some (.inl (ci, fs)) ∧ CL[ci]? = some z ∧ z.1 = "StreamTransport$Outgoing" ∧ ab_nos av' ∧ ab_Met l KT CL y_Out_append (Cond.code y_Out_append prog_7_method_3_code 5 none :: ab_gW) 1 22 none av m none r := by
  obtain ⟨v0, v1, v2, hav, h⟩ := c_Out_append_inv h0
  rw [r_Out_append_eq] at h
  have hmo : ab_mo m r := ab_kp_mo (kp_Out_append h0)
  subst hav
  exact ⟨_, _, _, _, _, _, rfl, rfl, by decide, rfl, rfl, rfl, (by intro v hv q e; subst e; simp at hv), ab_met (by decide +kernel) KT_0 KT_nd KT_k3 E_Out_append (cl_Out_append l) hmo (Nat.le_of_ble_eq_true rfl) (ab_rV_inv h) (fun v hv => by cases hv)⟩
/-! StreamTransport$Outgoing.countAcked()I -/
def y_Out_countAcked : MethodName := ⟨"StreamTransport$Outgoing", "countAcked", "()I"⟩
def t_Out_countAcked (pc : Nat) : Option Ent :=
  bif Nat.blt pc 13 then
    (bif Nat.blt pc 4 then
      (bif Nat.blt pc 2 then
        (bif Nat.blt pc 1 then
          (bif Nat.beq pc 0 then some (.iconst 0, 0, 0, 0, 0) else none)
        else
          bif Nat.beq pc 1 then some (.istore_n 1, 1, 0, 0, 0) else none)
      else
        bif Nat.blt pc 3 then
          (bif Nat.beq pc 2 then some (.iconst 0, 0, 0, 0, 0) else none)
        else
          bif Nat.beq pc 3 then some (.istore_n 2, 2, 0, 0, 0) else none)
    else
      bif Nat.blt pc 6 then
        (bif Nat.blt pc 5 then
          (bif Nat.beq pc 4 then some (.iload_n 2, 2, 0, 0, 0) else none)
        else
          bif Nat.beq pc 5 then some (.aload_n 0, 0, 0, 0, 0) else none)
      else
        bif Nat.blt pc 9 then
          (bif Nat.beq pc 6 then some (.getfield 35, 5, 2, 0, 0) else none)
        else
          bif Nat.blt pc 12 then
            (bif Nat.beq pc 9 then some (.if_icmp .ge (22), 31, 0, 0, 0) else none)
          else
            bif Nat.beq pc 12 then some (.aload_n 0, 0, 0, 0, 0) else none)
  else
    bif Nat.blt pc 22 then
      (bif Nat.blt pc 17 then
        (bif Nat.blt pc 16 then
          (bif Nat.beq pc 13 then some (.getfield 15, 5, 1, 1, 0) else none)
        else
          bif Nat.beq pc 16 then some (.iload_n 2, 2, 0, 0, 0) else none)
      else
        bif Nat.blt pc 18 then
          (bif Nat.beq pc 17 then some (.iaload, 0, 0, 0, 0) else none)
        else
          bif Nat.blt pc 19 then
            (bif Nat.beq pc 18 then some (.iconst 3, 0, 0, 0, 3) else none)
          else
            bif Nat.beq pc 19 then some (.if_icmp .ne (6), 25, 0, 0, 0) else none)
    else
      bif Nat.blt pc 28 then
        (bif Nat.blt pc 25 then
          (bif Nat.beq pc 22 then some (.iinc 1 1, 1, 0, 0, 1) else none)
        else
          bif Nat.beq pc 25 then some (.iinc 2 1, 2, 0, 0, 1) else none)
      else
        bif Nat.blt pc 31 then
          (bif Nat.beq pc 28 then some (.goto (-24), 4, 0, 0, 0) else none)
        else
          bif Nat.blt pc 32 then
            (bif Nat.beq pc 31 then some (.iload_n 1, 1, 0, 0, 0) else none)
          else
            bif Nat.beq pc 32 then some (.ireturn, 0, 0, 0, 0) else none
def i_Out_countAcked : Nat → Option Ent := ab_tab 33 t_Out_countAcked
def h_Out_countAcked (pc : Nat) : Nat × List Bool := bif Nat.beq pc 4 then (1, [true, true, true]) else bif Nat.beq pc 25 then (1, [true, true, true]) else (0, [])
def s_Out_countAcked (pc : Nat) : List (Int32 × Nat) × Nat := ([], 0)
noncomputable def eV_Out_countAcked : Nat → List AV → Mm → Option Mm := ab_ev []
noncomputable def eI_Out_countAcked : Nat → List AV → Mm → Option (Int32 × Mm) := ab_ev []
noncomputable def b_Out_countAcked_0 (f : Nat) (v0 : Nat) (m : Mm) : Option Rs := ab_ex KT none s_Out_countAcked eV_Out_countAcked eI_Out_countAcked i_Out_countAcked h_Out_countAcked f 0 [some (.inr (.inr (19, some v0))), none, none] [] m
noncomputable def b_Out_countAcked_4 (f : Nat) (v0 : Nat) (v1 : Int32) (v2 : Int32) (m : Mm) : Option Rs := ab_ex KT none s_Out_countAcked eV_Out_countAcked eI_Out_countAcked i_Out_countAcked h_Out_countAcked f 4 [some (.inr (.inr (19, some v0))), some (.inl v1), some (.inl v2)] [] m
noncomputable def b_Out_countAcked_25 (f : Nat) (v0 : Nat) (v1 : Int32) (v2 : Int32) (m : Mm) : Option Rs := ab_ex KT none s_Out_countAcked eV_Out_countAcked eI_Out_countAcked i_Out_countAcked h_Out_countAcked f 25 [some (.inr (.inr (19, some v0))), some (.inl v1), some (.inl v2)] [] m
set_option maxRecDepth 100000 in
set_option maxHeartbeats 4000000 in
theorem b_Out_countAcked_0_eq (f : Nat) (v0 : Nat) (m : Mm) : b_Out_countAcked_0 (f + 1) v0 m =
    b_Out_countAcked_4 f v0 (0 : Int32) (0 : Int32) m := rfl
set_option maxRecDepth 100000 in
set_option maxHeartbeats 4000000 in
theorem b_Out_countAcked_4_eq (f : Nat) (v0 : Nat) (v1 : Int32) (v2 : Int32) (m : Mm) : b_Out_countAcked_4 (f + 1) v0 v1 v2 m =
    if (m.1 59 v0 0) ≤ v2 then
      some (.inl (some (.inl v1), m))
    else
      (ab_ix v2 64).bind fun i1 =>
      if (m.1 67 (v0 + 2) i1) = (3 : Int32) then
        ab_let (v1 + (1 : Int32)) fun x2 =>
        b_Out_countAcked_25 f v0 x2 v2 m
      else
        b_Out_countAcked_25 f v0 v1 v2 m := rfl
set_option maxRecDepth 100000 in
set_option maxHeartbeats 4000000 in
theorem b_Out_countAcked_25_eq (f : Nat) (v0 : Nat) (v1 : Int32) (v2 : Int32) (m : Mm) : b_Out_countAcked_25 (f + 1) v0 v1 v2 m =
    ab_let (v2 + (1 : Int32)) fun x1 =>
    b_Out_countAcked_4 f v0 v1 x1 m := rfl
noncomputable def r_Out_countAcked : Nat → Mm → Option (Int32 × Mm) := ab_seal fun v0 m => ab_rI (b_Out_countAcked_0 50000 v0 m)
theorem r_Out_countAcked_eq (v0 : Nat) (m : Mm) : r_Out_countAcked v0 m = ab_rI (b_Out_countAcked_0 50000 v0 m) := by
  unfold r_Out_countAcked
  rw [ab_seal_eq]
noncomputable def c_Out_countAcked : List AV → Mm → Option (Int32 × Mm) := fun av m => match av with
  | [.inr (.inr (kv0, ov0))] => if kv0 = 19 then (ov0.bind fun v0 => r_Out_countAcked v0 m) else none
  | _ => none
theorem c_Out_countAcked_inv {av : List AV} {m : Mm} {r : Int32 × Mm} (h : c_Out_countAcked av m = some r) : ∃ (v0 : Nat), av = [.inr (.inr (19, some v0))] ∧ r_Out_countAcked v0 m = some r := by
  unfold c_Out_countAcked at h
  split at h
  · rename_i kv0 ov0
    by_cases hkv0 : kv0 = 19
    case neg => rw [if_neg hkv0] at h; cases h
    rw [if_pos hkv0] at h
    subst hkv0
    obtain ⟨v0, hev0, h⟩ := Option.bind_eq_some_iff.mp h
    subst hev0
    exact ⟨v0, rfl, h⟩
  · cases h
def cs_Out_countAcked : List Nat := []
set_option maxRecDepth 100000 in
theorem E_Out_countAcked : ∀ (pc : Nat) (q : Ent), i_Out_countAcked pc = some q → ab_E KT CL ab_gW "StreamTransport$Outgoing" "countAcked" (some .int) prog_7_method_4_code s_Out_countAcked 3 pc q.1 q.2.1 q.2.2.1 q.2.2.2.1 q.2.2.2.2 := fun pc q hq =>
  ab_Eb_ok lc_Out lj_Out fl_Out (fpn_Out "countAcked") nw_Out na_Out nq_Out (ab_tab_all (t := t_Out_countAcked) (chk := fun pc q => ab_Eb (some .int) prog_7_method_4_code s_Out_countAcked 3 LC_Out LJ_Out FL_Out FPn_Out NW_Out NA_Out NQ_Out pc q.1 q.2.1 q.2.2.1 q.2.2.2.1 q.2.2.2.2) (by decide +kernel) hq)
set_option maxRecDepth 100000 in
theorem kp_Out_countAcked {av : List AV} {m : Mm} {r : Int32 × Mm} (h : c_Out_countAcked av m = some r) : ab_kp m r.2 := by
  obtain ⟨v0, -, h⟩ := c_Out_countAcked_inv h
  rw [r_Out_countAcked_eq] at h
  have hV : ∀ a av m m', eV_Out_countAcked a av m = some m' → ab_kp m m' := ab_ev_all (P := fun _ m r => ab_kp m r) [] (fun q hq => by cases hq)
  have hI : ∀ a av m q, eI_Out_countAcked a av m = some q → ab_kp m q.2 := ab_ev_all (P := fun _ (m : Mm) (r : Int32 × Mm) => ab_kp m r.2) [] (fun q hq => by cases hq)
  exact ab_kprel (ρ := .inl (some (.inl r.1), r.2)) (ab_tab_isn (t := t_Out_countAcked) (by decide +kernel)) hV hI (ab_rI_inv h)
set_option maxRecDepth 100000 in
theorem cl_Out_countAcked (l : Launch) : ∀ (pc : Nat) (q : Ent), i_Out_countAcked pc = some q → ab_inv q.1 = true → ab_CR l KT CL none ab_gW "StreamTransport$Outgoing" prog_7_method_4_code 3 0 0 eV_Out_countAcked eI_Out_countAcked pc q := by
  intro pc q hq hi
  have hm : pc ∈ cs_Out_countAcked := ab_tab_cs (t := t_Out_countAcked) (by decide +kernel) hq hi
  cases hm
theorem cw_Out_countAcked : ab_cw y_Out_countAcked prog_7_method_4_code 3 0 (some .int) := ⟨ab_gW_in 827 (by decide +kernel) rfl, ab_gW_in 70 (by decide +kernel) rfl, by decide +kernel, by decide +kernel, by decide +kernel⟩
theorem is_Out_countAcked : Cond.instanceMethod y_Out_countAcked ∈ ab_gW := ab_gW_in 825 (by decide +kernel) rfl
theorem sl_Out_countAcked : Cond.selects "StreamTransport$Outgoing" y_Out_countAcked y_Out_countAcked ∈ ab_gW := ab_gW_in 826 (by decide +kernel) rfl
set_option maxRecDepth 100000 in
theorem cm_Out_countAcked (l : Launch) {av : List AV} {m : Mm} {r : Int32 × Mm} (h0 : c_Out_countAcked av m = some r) : ∃ (k q : Nat) (av' : List AV) (ci : Nat) (fs : List (Nat × Nat × Nat × Nat)) (z : vw_C), av = .inr (.inr (k, some q)) :: av' ∧ av'.length = 0 ∧ k ≠ 0 ∧ KT[k]? = some (.inl (ci, fs)) ∧ CL[ci]? = some z ∧ z.1 = "StreamTransport$Outgoing" ∧ ab_nos av' ∧ ab_Met l KT CL y_Out_countAcked (Cond.code y_Out_countAcked prog_7_method_4_code 3 (some .int) :: ab_gW) 0 0 none av m (some (.inl r.1)) r.2 := by
  obtain ⟨v0, hav, h⟩ := c_Out_countAcked_inv h0
  rw [r_Out_countAcked_eq] at h
  have hmo : ab_mo m r.2 := ab_kp_mo (kp_Out_countAcked h0)
  subst hav
  exact ⟨_, _, _, _, _, _, rfl, rfl, by decide, rfl, rfl, rfl, (by intro v hv q e; subst e; simp at hv), ab_met (by decide +kernel) KT_0 KT_nd KT_k3 E_Out_countAcked (cl_Out_countAcked l) hmo (Nat.le_of_ble_eq_true rfl) (ab_rI_inv h) (fun v hv => by cases hv; exact ⟨_, rfl⟩)⟩
/-! StreamTransport$Outgoing.isOwed(I)Z -/
def y_Out_isOwed : MethodName := ⟨"StreamTransport$Outgoing", "isOwed", "(I)Z"⟩
def t_Out_isOwed (pc : Nat) : Option Ent :=
  bif Nat.blt pc 6 then
    (bif Nat.blt pc 4 then
      (bif Nat.blt pc 1 then
        (bif Nat.beq pc 0 then some (.iload_n 0, 0, 0, 0, 0) else none)
      else
        bif Nat.beq pc 1 then some (.ifCond .eq (8), 9, 0, 0, 0) else none)
    else
      bif Nat.blt pc 5 then
        (bif Nat.beq pc 4 then some (.iload_n 0, 0, 0, 0, 0) else none)
      else
        bif Nat.beq pc 5 then some (.iconst 2, 0, 0, 0, 2) else none)
  else
    bif Nat.blt pc 10 then
      (bif Nat.blt pc 9 then
        (bif Nat.beq pc 6 then some (.if_icmp .ne (7), 13, 0, 0, 0) else none)
      else
        bif Nat.beq pc 9 then some (.iconst 1, 0, 0, 0, 1) else none)
    else
      bif Nat.blt pc 13 then
        (bif Nat.beq pc 10 then some (.goto 4, 14, 0, 0, 0) else none)
      else
        bif Nat.blt pc 14 then
          (bif Nat.beq pc 13 then some (.iconst 0, 0, 0, 0, 0) else none)
        else
          bif Nat.beq pc 14 then some (.ireturn, 0, 0, 1, 0) else none
def i_Out_isOwed : Nat → Option Ent := ab_tab 15 t_Out_isOwed
def h_Out_isOwed (pc : Nat) : Nat × List Bool := bif Nat.beq pc 9 then (1, [false]) else (0, [])
def s_Out_isOwed (pc : Nat) : List (Int32 × Nat) × Nat := ([], 0)
noncomputable def eV_Out_isOwed : Nat → List AV → Mm → Option Mm := ab_ev []
noncomputable def eI_Out_isOwed : Nat → List AV → Mm → Option (Int32 × Mm) := ab_ev []
noncomputable def b_Out_isOwed_0 (f : Nat) (v0 : Int32) (m : Mm) : Option Rs := ab_ex KT none s_Out_isOwed eV_Out_isOwed eI_Out_isOwed i_Out_isOwed h_Out_isOwed f 0 [some (.inl v0)] [] m
noncomputable def b_Out_isOwed_9 (f : Nat)  (m : Mm) : Option Rs := ab_ex KT none s_Out_isOwed eV_Out_isOwed eI_Out_isOwed i_Out_isOwed h_Out_isOwed f 9 [none] [] m
set_option maxRecDepth 100000 in
set_option maxHeartbeats 4000000 in
theorem b_Out_isOwed_0_eq (f : Nat) (v0 : Int32) (m : Mm) : b_Out_isOwed_0 (f + 1) v0 m =
    if v0 = 0 then
      b_Out_isOwed_9 f  m
    else
      if v0 = (2 : Int32) then
        b_Out_isOwed_9 f  m
      else
        (ab_bo (0 : Int32)).bind fun y1 => some (.inl (some (.inl y1), m)) := rfl
set_option maxRecDepth 100000 in
set_option maxHeartbeats 4000000 in
theorem b_Out_isOwed_9_eq (f : Nat)  (m : Mm) : b_Out_isOwed_9 (f + 1)  m =
    (ab_bo (1 : Int32)).bind fun y1 => some (.inl (some (.inl y1), m)) := rfl
noncomputable def r_Out_isOwed : Int32 → Mm → Option (Int32 × Mm) := ab_seal fun v0 m => ab_rI (b_Out_isOwed_0 50000 v0 m)
theorem r_Out_isOwed_eq (v0 : Int32) (m : Mm) : r_Out_isOwed v0 m = ab_rI (b_Out_isOwed_0 50000 v0 m) := by
  unfold r_Out_isOwed
  rw [ab_seal_eq]
noncomputable def c_Out_isOwed : List AV → Mm → Option (Int32 × Mm) := fun av m => match av with
  | [.inl v0] => r_Out_isOwed v0 m
  | _ => none
theorem c_Out_isOwed_inv {av : List AV} {m : Mm} {r : Int32 × Mm} (h : c_Out_isOwed av m = some r) : ∃ (v0 : Int32), av = [.inl v0] ∧ r_Out_isOwed v0 m = some r := by
  unfold c_Out_isOwed at h
  split at h
  · rename_i v0
    exact ⟨v0, rfl, h⟩
  · cases h
def cs_Out_isOwed : List Nat := []
set_option maxRecDepth 100000 in
theorem E_Out_isOwed : ∀ (pc : Nat) (q : Ent), i_Out_isOwed pc = some q → ab_E KT CL ab_gW "StreamTransport$Outgoing" "isOwed" (some .boolean) prog_7_method_10_code s_Out_isOwed 1 pc q.1 q.2.1 q.2.2.1 q.2.2.2.1 q.2.2.2.2 := fun pc q hq =>
  ab_Eb_ok lc_Out lj_Out fl_Out (fpn_Out "isOwed") nw_Out na_Out nq_Out (ab_tab_all (t := t_Out_isOwed) (chk := fun pc q => ab_Eb (some .boolean) prog_7_method_10_code s_Out_isOwed 1 LC_Out LJ_Out FL_Out FPn_Out NW_Out NA_Out NQ_Out pc q.1 q.2.1 q.2.2.1 q.2.2.2.1 q.2.2.2.2) (by decide +kernel) hq)
set_option maxRecDepth 100000 in
theorem kp_Out_isOwed {av : List AV} {m : Mm} {r : Int32 × Mm} (h : c_Out_isOwed av m = some r) : ab_kp m r.2 := by
  obtain ⟨v0, -, h⟩ := c_Out_isOwed_inv h
  rw [r_Out_isOwed_eq] at h
  have hV : ∀ a av m m', eV_Out_isOwed a av m = some m' → ab_kp m m' := ab_ev_all (P := fun _ m r => ab_kp m r) [] (fun q hq => by cases hq)
  have hI : ∀ a av m q, eI_Out_isOwed a av m = some q → ab_kp m q.2 := ab_ev_all (P := fun _ (m : Mm) (r : Int32 × Mm) => ab_kp m r.2) [] (fun q hq => by cases hq)
  exact ab_kprel (ρ := .inl (some (.inl r.1), r.2)) (ab_tab_isn (t := t_Out_isOwed) (by decide +kernel)) hV hI (ab_rI_inv h)
set_option maxRecDepth 100000 in
theorem cl_Out_isOwed (l : Launch) : ∀ (pc : Nat) (q : Ent), i_Out_isOwed pc = some q → ab_inv q.1 = true → ab_CR l KT CL none ab_gW "StreamTransport$Outgoing" prog_7_method_10_code 1 0 0 eV_Out_isOwed eI_Out_isOwed pc q := by
  intro pc q hq hi
  have hm : pc ∈ cs_Out_isOwed := ab_tab_cs (t := t_Out_isOwed) (by decide +kernel) hq hi
  cases hm
theorem cw_Out_isOwed : ab_cw y_Out_isOwed prog_7_method_10_code 1 1 (some .boolean) := ⟨ab_gW_in 535 (by decide +kernel) rfl, ab_gW_in 70 (by decide +kernel) rfl, by decide +kernel, by decide +kernel, by decide +kernel⟩
theorem st_Out_isOwed : Cond.static y_Out_isOwed ∈ ab_gW := ab_gW_in 534 (by decide +kernel) rfl
set_option maxRecDepth 100000 in
theorem cm_Out_isOwed (l : Launch) {av : List AV} {m : Mm} {r : Int32 × Mm} (h0 : c_Out_isOwed av m = some r) : av.length = 1 ∧ ab_nos av ∧ ab_Met l KT CL y_Out_isOwed (Cond.code y_Out_isOwed prog_7_method_10_code 1 (some .boolean) :: ab_gW) 0 0 none av m (some (.inl r.1)) r.2 := by
  obtain ⟨v0, hav, h⟩ := c_Out_isOwed_inv h0
  rw [r_Out_isOwed_eq] at h
  have hmo : ab_mo m r.2 := ab_kp_mo (kp_Out_isOwed h0)
  subst hav
  exact ⟨rfl, (by intro v hv q e; subst e; simp at hv), ab_met (by decide +kernel) KT_0 KT_nd KT_k3 E_Out_isOwed (cl_Out_isOwed l) hmo (Nat.le_of_ble_eq_true rfl) (ab_rI_inv h) (fun v hv => by cases hv; exact ⟨_, rfl⟩)⟩
/-! StreamTransport$Outgoing.owesReset()Z -/
def y_Out_owesReset : MethodName := ⟨"StreamTransport$Outgoing", "owesReset", "()Z"⟩
def t_Out_owesReset (pc : Nat) : Option Ent :=
  bif Nat.blt pc 11 then
    (bif Nat.blt pc 4 then
      (bif Nat.blt pc 1 then
        (bif Nat.beq pc 0 then some (.aload_n 0, 0, 0, 0, 0) else none)
      else
        bif Nat.beq pc 1 then some (.getfield 32, 5, 6, 0, 0) else none)
    else
      bif Nat.blt pc 7 then
        (bif Nat.beq pc 4 then some (.ifCond .eq (17), 21, 0, 0, 0) else none)
      else
        bif Nat.blt pc 8 then
          (bif Nat.beq pc 7 then some (.aload_n 0, 0, 0, 0, 0) else none)
        else
          bif Nat.beq pc 8 then some (.getfield 22, 5, 8, 0, 0) else none)
  else
    bif Nat.blt pc 18 then
      (bif Nat.blt pc 14 then
        (bif Nat.beq pc 11 then some (.invokestatic 49, 33, 1, 1, 0) else none)
      else
        bif Nat.blt pc 17 then
          (bif Nat.beq pc 14 then some (.ifCond .eq (7), 21, 0, 0, 0) else none)
        else
          bif Nat.beq pc 17 then some (.iconst 1, 0, 0, 0, 1) else none)
    else
      bif Nat.blt pc 21 then
        (bif Nat.beq pc 18 then some (.goto 4, 22, 0, 0, 0) else none)
      else
        bif Nat.blt pc 22 then
          (bif Nat.beq pc 21 then some (.iconst 0, 0, 0, 0, 0) else none)
        else
          bif Nat.beq pc 22 then some (.ireturn, 0, 0, 1, 0) else none
def i_Out_owesReset : Nat → Option Ent := ab_tab 23 t_Out_owesReset
def h_Out_owesReset (pc : Nat) : Nat × List Bool := (0, [])
def s_Out_owesReset (pc : Nat) : List (Int32 × Nat) × Nat := ([], 0)
noncomputable def eV_Out_owesReset : Nat → List AV → Mm → Option Mm := ab_ev []
noncomputable def eI_Out_owesReset : Nat → List AV → Mm → Option (Int32 × Mm) := ab_ev [(33, c_Out_isOwed)]
noncomputable def b_Out_owesReset_0 (f : Nat) (v0 : Nat) (m : Mm) : Option Rs := ab_ex KT none s_Out_owesReset eV_Out_owesReset eI_Out_owesReset i_Out_owesReset h_Out_owesReset f 0 [some (.inr (.inr (19, some v0)))] [] m
set_option maxRecDepth 100000 in
set_option maxHeartbeats 4000000 in
theorem b_Out_owesReset_0_eq (f : Nat) (v0 : Nat) (m : Mm) : b_Out_owesReset_0 (f + 1) v0 m =
    if (m.1 63 v0 0) = 0 then
      (ab_bo (0 : Int32)).bind fun y1 => some (.inl (some (.inl y1), m))
    else
      (r_Out_isOwed (m.1 65 v0 0) m).bind fun z2 =>
      if z2.1 = 0 then
        (ab_bo (0 : Int32)).bind fun y3 => some (.inl (some (.inl y3), z2.2))
      else
        (ab_bo (1 : Int32)).bind fun y4 => some (.inl (some (.inl y4), z2.2)) := rfl
noncomputable def r_Out_owesReset : Nat → Mm → Option (Int32 × Mm) := ab_seal fun v0 m => ab_rI (b_Out_owesReset_0 50000 v0 m)
theorem r_Out_owesReset_eq (v0 : Nat) (m : Mm) : r_Out_owesReset v0 m = ab_rI (b_Out_owesReset_0 50000 v0 m) := by
  unfold r_Out_owesReset
  rw [ab_seal_eq]
noncomputable def c_Out_owesReset : List AV → Mm → Option (Int32 × Mm) := fun av m => match av with
  | [.inr (.inr (kv0, ov0))] => if kv0 = 19 then (ov0.bind fun v0 => r_Out_owesReset v0 m) else none
  | _ => none
theorem c_Out_owesReset_inv {av : List AV} {m : Mm} {r : Int32 × Mm} (h : c_Out_owesReset av m = some r) : ∃ (v0 : Nat), av = [.inr (.inr (19, some v0))] ∧ r_Out_owesReset v0 m = some r := by
  unfold c_Out_owesReset at h
  split at h
  · rename_i kv0 ov0
    by_cases hkv0 : kv0 = 19
    case neg => rw [if_neg hkv0] at h; cases h
    rw [if_pos hkv0] at h
    subst hkv0
    obtain ⟨v0, hev0, h⟩ := Option.bind_eq_some_iff.mp h
    subst hev0
    exact ⟨v0, rfl, h⟩
  · cases h
def cs_Out_owesReset : List Nat := [11]
set_option maxRecDepth 100000 in
theorem E_Out_owesReset : ∀ (pc : Nat) (q : Ent), i_Out_owesReset pc = some q → ab_E KT CL ab_gW "StreamTransport$Outgoing" "owesReset" (some .boolean) prog_7_method_8_code s_Out_owesReset 1 pc q.1 q.2.1 q.2.2.1 q.2.2.2.1 q.2.2.2.2 := fun pc q hq =>
  ab_Eb_ok lc_Out lj_Out fl_Out (fpn_Out "owesReset") nw_Out na_Out nq_Out (ab_tab_all (t := t_Out_owesReset) (chk := fun pc q => ab_Eb (some .boolean) prog_7_method_8_code s_Out_owesReset 1 LC_Out LJ_Out FL_Out FPn_Out NW_Out NA_Out NQ_Out pc q.1 q.2.1 q.2.2.1 q.2.2.2.1 q.2.2.2.2) (by decide +kernel) hq)
set_option maxRecDepth 100000 in
theorem kp_Out_owesReset {av : List AV} {m : Mm} {r : Int32 × Mm} (h : c_Out_owesReset av m = some r) : ab_kp m r.2 := by
  obtain ⟨v0, -, h⟩ := c_Out_owesReset_inv h
  rw [r_Out_owesReset_eq] at h
  have hV : ∀ a av m m', eV_Out_owesReset a av m = some m' → ab_kp m m' := ab_ev_all (P := fun _ m r => ab_kp m r) [] (fun q hq => by cases hq)
  have hI : ∀ a av m q, eI_Out_owesReset a av m = some q → ab_kp m q.2 := ab_ev_all (P := fun _ (m : Mm) (r : Int32 × Mm) => ab_kp m r.2) [(33, c_Out_isOwed)] (List.forall_mem_cons.mpr ⟨fun av m r h => kp_Out_isOwed h, fun q hq => by cases hq⟩)
  exact ab_kprel (ρ := .inl (some (.inl r.1), r.2)) (ab_tab_isn (t := t_Out_owesReset) (by decide +kernel)) hV hI (ab_rI_inv h)
set_option maxRecDepth 100000 in
theorem cl_Out_owesReset (l : Launch) : ∀ (pc : Nat) (q : Ent), i_Out_owesReset pc = some q → ab_inv q.1 = true → ab_CR l KT CL none ab_gW "StreamTransport$Outgoing" prog_7_method_8_code 1 1 20 eV_Out_owesReset eI_Out_owesReset pc q := by
  intro pc q hq hi
  have hm : pc ∈ cs_Out_owesReset := ab_tab_cs (t := t_Out_owesReset) (by decide +kernel) hq hi
  simp only [cs_Out_owesReset, List.mem_cons, List.not_mem_nil, or_false] at hm
  rcases hm with rfl
  · cases (Option.some.inj hq : ((.invokestatic 49, 33, 1, 1, 0) : Ent) = q)
    exact ab_crS (by decide +kernel) cw_Out_isOwed (ab_gW_in 533 (by decide +kernel) rfl) st_Out_isOwed (by decide) (fun av m m' h => by cases h) (fun av m r h => cm_Out_isOwed l h) KT_nd
theorem cw_Out_owesReset : ab_cw y_Out_owesReset prog_7_method_8_code 1 0 (some .boolean) := ⟨ab_gW_in 532 (by decide +kernel) rfl, ab_gW_in 70 (by decide +kernel) rfl, by decide +kernel, by decide +kernel, by decide +kernel⟩
theorem is_Out_owesReset : Cond.instanceMethod y_Out_owesReset ∈ ab_gW := ab_gW_in 530 (by decide +kernel) rfl
theorem sl_Out_owesReset : Cond.selects "StreamTransport$Outgoing" y_Out_owesReset y_Out_owesReset ∈ ab_gW := ab_gW_in 531 (by decide +kernel) rfl
set_option maxRecDepth 100000 in
theorem cm_Out_owesReset (l : Launch) {av : List AV} {m : Mm} {r : Int32 × Mm} (h0 : c_Out_owesReset av m = some r) : ∃ (k q : Nat) (av' : List AV) (ci : Nat) (fs : List (Nat × Nat × Nat × Nat)) (z : vw_C), av = .inr (.inr (k, some q)) :: av' ∧ av'.length = 0 ∧ k ≠ 0 ∧ KT[k]? = some (.inl (ci, fs)) ∧ CL[ci]? = some z ∧ z.1 = "StreamTransport$Outgoing" ∧ ab_nos av' ∧ ab_Met l KT CL y_Out_owesReset (Cond.code y_Out_owesReset prog_7_method_8_code 1 (some .boolean) :: ab_gW) 1 20 none av m (some (.inl r.1)) r.2 := by
  obtain ⟨v0, hav, h⟩ := c_Out_owesReset_inv h0
  rw [r_Out_owesReset_eq] at h
  have hmo : ab_mo m r.2 := ab_kp_mo (kp_Out_owesReset h0)
  subst hav
  exact ⟨_, _, _, _, _, _, rfl, rfl, by decide, rfl, rfl, rfl, (by intro v hv q e; subst e; simp at hv), ab_met (by decide +kernel) KT_0 KT_nd KT_k3 E_Out_owesReset (cl_Out_owesReset l) hmo (Nat.le_of_ble_eq_true rfl) (ab_rI_inv h) (fun v hv => by cases hv; exact ⟨_, rfl⟩)⟩
/-! StreamTransport$Outgoing.firstLost()I -/
def y_Out_firstLost : MethodName := ⟨"StreamTransport$Outgoing", "firstLost", "()I"⟩
def t_Out_firstLost (pc : Nat) : Option Ent :=
  bif Nat.blt pc 15 then
    (bif Nat.blt pc 4 then
      (bif Nat.blt pc 2 then
        (bif Nat.blt pc 1 then
          (bif Nat.beq pc 0 then some (.iconst 0, 0, 0, 0, 0) else none)
        else
          bif Nat.beq pc 1 then some (.istore_n 1, 1, 0, 0, 0) else none)
      else
        bif Nat.blt pc 3 then
          (bif Nat.beq pc 2 then some (.iload_n 1, 1, 0, 0, 0) else none)
        else
          bif Nat.beq pc 3 then some (.aload_n 0, 0, 0, 0, 0) else none)
    else
      bif Nat.blt pc 10 then
        (bif Nat.blt pc 7 then
          (bif Nat.beq pc 4 then some (.getfield 46, 5, 3, 0, 0) else none)
        else
          bif Nat.beq pc 7 then some (.if_icmp .ge (21), 28, 0, 0, 0) else none)
      else
        bif Nat.blt pc 11 then
          (bif Nat.beq pc 10 then some (.aload_n 0, 0, 0, 0, 0) else none)
        else
          bif Nat.blt pc 14 then
            (bif Nat.beq pc 11 then some (.getfield 15, 5, 1, 1, 0) else none)
          else
            bif Nat.beq pc 14 then some (.iload_n 1, 1, 0, 0, 0) else none)
  else
    bif Nat.blt pc 21 then
      (bif Nat.blt pc 17 then
        (bif Nat.blt pc 16 then
          (bif Nat.beq pc 15 then some (.iaload, 0, 0, 0, 0) else none)
        else
          bif Nat.beq pc 16 then some (.iconst 2, 0, 0, 0, 2) else none)
      else
        bif Nat.blt pc 20 then
          (bif Nat.beq pc 17 then some (.if_icmp .ne (5), 22, 0, 0, 0) else none)
        else
          bif Nat.beq pc 20 then some (.iload_n 1, 1, 0, 0, 0) else none)
    else
      bif Nat.blt pc 25 then
        (bif Nat.blt pc 22 then
          (bif Nat.beq pc 21 then some (.ireturn, 0, 0, 0, 0) else none)
        else
          bif Nat.beq pc 22 then some (.iinc 1 1, 1, 0, 0, 1) else none)
      else
        bif Nat.blt pc 28 then
          (bif Nat.beq pc 25 then some (.goto (-23), 2, 0, 0, 0) else none)
        else
          bif Nat.blt pc 29 then
            (bif Nat.beq pc 28 then some (.iconst (-1), 0, 0, 0, -1) else none)
          else
            bif Nat.beq pc 29 then some (.ireturn, 0, 0, 0, 0) else none
def i_Out_firstLost : Nat → Option Ent := ab_tab 30 t_Out_firstLost
def h_Out_firstLost (pc : Nat) : Nat × List Bool := bif Nat.beq pc 2 then (1, [true, true]) else (0, [])
def s_Out_firstLost (pc : Nat) : List (Int32 × Nat) × Nat := ([], 0)
noncomputable def eV_Out_firstLost : Nat → List AV → Mm → Option Mm := ab_ev []
noncomputable def eI_Out_firstLost : Nat → List AV → Mm → Option (Int32 × Mm) := ab_ev []
noncomputable def b_Out_firstLost_0 (f : Nat) (v0 : Nat) (m : Mm) : Option Rs := ab_ex KT none s_Out_firstLost eV_Out_firstLost eI_Out_firstLost i_Out_firstLost h_Out_firstLost f 0 [some (.inr (.inr (19, some v0))), none] [] m
noncomputable def b_Out_firstLost_2 (f : Nat) (v0 : Nat) (v1 : Int32) (m : Mm) : Option Rs := ab_ex KT none s_Out_firstLost eV_Out_firstLost eI_Out_firstLost i_Out_firstLost h_Out_firstLost f 2 [some (.inr (.inr (19, some v0))), some (.inl v1)] [] m
set_option maxRecDepth 100000 in
set_option maxHeartbeats 4000000 in
theorem b_Out_firstLost_0_eq (f : Nat) (v0 : Nat) (m : Mm) : b_Out_firstLost_0 (f + 1) v0 m =
    b_Out_firstLost_2 f v0 (0 : Int32) m := rfl
set_option maxRecDepth 100000 in
set_option maxHeartbeats 4000000 in
theorem b_Out_firstLost_2_eq (f : Nat) (v0 : Nat) (v1 : Int32) (m : Mm) : b_Out_firstLost_2 (f + 1) v0 v1 m =
    if (m.1 60 v0 0) ≤ v1 then
      some (.inl (some (.inl (-1 : Int32)), m))
    else
      (ab_ix v1 64).bind fun i1 =>
      if (m.1 67 (v0 + 2) i1) = (2 : Int32) then
        some (.inl (some (.inl v1), m))
      else
        ab_let (v1 + (1 : Int32)) fun x2 =>
        b_Out_firstLost_2 f v0 x2 m := rfl
noncomputable def r_Out_firstLost : Nat → Mm → Option (Int32 × Mm) := ab_seal fun v0 m => ab_rI (b_Out_firstLost_0 50000 v0 m)
theorem r_Out_firstLost_eq (v0 : Nat) (m : Mm) : r_Out_firstLost v0 m = ab_rI (b_Out_firstLost_0 50000 v0 m) := by
  unfold r_Out_firstLost
  rw [ab_seal_eq]
noncomputable def c_Out_firstLost : List AV → Mm → Option (Int32 × Mm) := fun av m => match av with
  | [.inr (.inr (kv0, ov0))] => if kv0 = 19 then (ov0.bind fun v0 => r_Out_firstLost v0 m) else none
  | _ => none
theorem c_Out_firstLost_inv {av : List AV} {m : Mm} {r : Int32 × Mm} (h : c_Out_firstLost av m = some r) : ∃ (v0 : Nat), av = [.inr (.inr (19, some v0))] ∧ r_Out_firstLost v0 m = some r := by
  unfold c_Out_firstLost at h
  split at h
  · rename_i kv0 ov0
    by_cases hkv0 : kv0 = 19
    case neg => rw [if_neg hkv0] at h; cases h
    rw [if_pos hkv0] at h
    subst hkv0
    obtain ⟨v0, hev0, h⟩ := Option.bind_eq_some_iff.mp h
    subst hev0
    exact ⟨v0, rfl, h⟩
  · cases h
def cs_Out_firstLost : List Nat := []
set_option maxRecDepth 100000 in
theorem E_Out_firstLost : ∀ (pc : Nat) (q : Ent), i_Out_firstLost pc = some q → ab_E KT CL ab_gW "StreamTransport$Outgoing" "firstLost" (some .int) prog_7_method_6_code s_Out_firstLost 2 pc q.1 q.2.1 q.2.2.1 q.2.2.2.1 q.2.2.2.2 := fun pc q hq =>
  ab_Eb_ok lc_Out lj_Out fl_Out (fpn_Out "firstLost") nw_Out na_Out nq_Out (ab_tab_all (t := t_Out_firstLost) (chk := fun pc q => ab_Eb (some .int) prog_7_method_6_code s_Out_firstLost 2 LC_Out LJ_Out FL_Out FPn_Out NW_Out NA_Out NQ_Out pc q.1 q.2.1 q.2.2.1 q.2.2.2.1 q.2.2.2.2) (by decide +kernel) hq)
set_option maxRecDepth 100000 in
theorem kp_Out_firstLost {av : List AV} {m : Mm} {r : Int32 × Mm} (h : c_Out_firstLost av m = some r) : ab_kp m r.2 := by
  obtain ⟨v0, -, h⟩ := c_Out_firstLost_inv h
  rw [r_Out_firstLost_eq] at h
  have hV : ∀ a av m m', eV_Out_firstLost a av m = some m' → ab_kp m m' := ab_ev_all (P := fun _ m r => ab_kp m r) [] (fun q hq => by cases hq)
  have hI : ∀ a av m q, eI_Out_firstLost a av m = some q → ab_kp m q.2 := ab_ev_all (P := fun _ (m : Mm) (r : Int32 × Mm) => ab_kp m r.2) [] (fun q hq => by cases hq)
  exact ab_kprel (ρ := .inl (some (.inl r.1), r.2)) (ab_tab_isn (t := t_Out_firstLost) (by decide +kernel)) hV hI (ab_rI_inv h)
set_option maxRecDepth 100000 in
theorem cl_Out_firstLost (l : Launch) : ∀ (pc : Nat) (q : Ent), i_Out_firstLost pc = some q → ab_inv q.1 = true → ab_CR l KT CL none ab_gW "StreamTransport$Outgoing" prog_7_method_6_code 2 0 0 eV_Out_firstLost eI_Out_firstLost pc q := by
  intro pc q hq hi
  have hm : pc ∈ cs_Out_firstLost := ab_tab_cs (t := t_Out_firstLost) (by decide +kernel) hq hi
  cases hm
theorem cw_Out_firstLost : ab_cw y_Out_firstLost prog_7_method_6_code 2 0 (some .int) := ⟨ab_gW_in 552 (by decide +kernel) rfl, ab_gW_in 70 (by decide +kernel) rfl, by decide +kernel, by decide +kernel, by decide +kernel⟩
theorem is_Out_firstLost : Cond.instanceMethod y_Out_firstLost ∈ ab_gW := ab_gW_in 550 (by decide +kernel) rfl
theorem sl_Out_firstLost : Cond.selects "StreamTransport$Outgoing" y_Out_firstLost y_Out_firstLost ∈ ab_gW := ab_gW_in 551 (by decide +kernel) rfl
set_option maxRecDepth 100000 in
theorem cm_Out_firstLost (l : Launch) {av : List AV} {m : Mm} {r : Int32 × Mm} (h0 : c_Out_firstLost av m = some r) : ∃ (k q : Nat) (av' : List AV) (ci : Nat) (fs : List (Nat × Nat × Nat × Nat)) (z : vw_C), av = .inr (.inr (k, some q)) :: av' ∧ av'.length = 0 ∧ k ≠ 0 ∧ KT[k]? = some (.inl (ci, fs)) ∧ CL[ci]? = some z ∧ z.1 = "StreamTransport$Outgoing" ∧ ab_nos av' ∧ ab_Met l KT CL y_Out_firstLost (Cond.code y_Out_firstLost prog_7_method_6_code 2 (some .int) :: ab_gW) 0 0 none av m (some (.inl r.1)) r.2 := by
  obtain ⟨v0, hav, h⟩ := c_Out_firstLost_inv h0
  rw [r_Out_firstLost_eq] at h
  have hmo : ab_mo m r.2 := ab_kp_mo (kp_Out_firstLost h0)
  subst hav
  exact ⟨_, _, _, _, _, _, rfl, rfl, by decide, rfl, rfl, rfl, (by intro v hv q e; subst e; simp at hv), ab_met (by decide +kernel) KT_0 KT_nd KT_k3 E_Out_firstLost (cl_Out_firstLost l) hmo (Nat.le_of_ble_eq_true rfl) (ab_rI_inv h) (fun v hv => by cases hv; exact ⟨_, rfl⟩)⟩
/-! StreamTransport$Outgoing.countLostFrom(I)I -/
def y_Out_countLostFrom : MethodName := ⟨"StreamTransport$Outgoing", "countLostFrom", "(I)I"⟩
def t_Out_countLostFrom (pc : Nat) : Option Ent :=
  bif Nat.blt pc 13 then
    (bif Nat.blt pc 4 then
      (bif Nat.blt pc 2 then
        (bif Nat.blt pc 1 then
          (bif Nat.beq pc 0 then some (.iconst 0, 0, 0, 0, 0) else none)
        else
          bif Nat.beq pc 1 then some (.istore_n 2, 2, 0, 0, 0) else none)
      else
        bif Nat.blt pc 3 then
          (bif Nat.beq pc 2 then some (.iload_n 1, 1, 0, 0, 0) else none)
        else
          bif Nat.beq pc 3 then some (.istore_n 3, 3, 0, 0, 0) else none)
    else
      bif Nat.blt pc 6 then
        (bif Nat.blt pc 5 then
          (bif Nat.beq pc 4 then some (.iload_n 3, 3, 0, 0, 0) else none)
        else
          bif Nat.beq pc 5 then some (.aload_n 0, 0, 0, 0, 0) else none)
      else
        bif Nat.blt pc 9 then
          (bif Nat.beq pc 6 then some (.getfield 46, 5, 3, 0, 0) else none)
        else
          bif Nat.blt pc 12 then
            (bif Nat.beq pc 9 then some (.if_icmp .ge (22), 31, 0, 0, 0) else none)
          else
            bif Nat.beq pc 12 then some (.aload_n 0, 0, 0, 0, 0) else none)
  else
    bif Nat.blt pc 22 then
      (bif Nat.blt pc 17 then
        (bif Nat.blt pc 16 then
          (bif Nat.beq pc 13 then some (.getfield 15, 5, 1, 1, 0) else none)
        else
          bif Nat.beq pc 16 then some (.iload_n 3, 3, 0, 0, 0) else none)
      else
        bif Nat.blt pc 18 then
          (bif Nat.beq pc 17 then some (.iaload, 0, 0, 0, 0) else none)
        else
          bif Nat.blt pc 19 then
            (bif Nat.beq pc 18 then some (.iconst 2, 0, 0, 0, 2) else none)
          else
            bif Nat.beq pc 19 then some (.if_icmp .ne (12), 31, 0, 0, 0) else none)
    else
      bif Nat.blt pc 28 then
        (bif Nat.blt pc 25 then
          (bif Nat.beq pc 22 then some (.iinc 2 1, 2, 0, 0, 1) else none)
        else
          bif Nat.beq pc 25 then some (.iinc 3 1, 3, 0, 0, 1) else none)
      else
        bif Nat.blt pc 31 then
          (bif Nat.beq pc 28 then some (.goto (-24), 4, 0, 0, 0) else none)
        else
          bif Nat.blt pc 32 then
            (bif Nat.beq pc 31 then some (.iload_n 2, 2, 0, 0, 0) else none)
          else
            bif Nat.beq pc 32 then some (.ireturn, 0, 0, 0, 0) else none
def i_Out_countLostFrom : Nat → Option Ent := ab_tab 33 t_Out_countLostFrom
def h_Out_countLostFrom (pc : Nat) : Nat × List Bool := bif Nat.beq pc 4 then (1, [true, false, true, true]) else (0, [])
def s_Out_countLostFrom (pc : Nat) : List (Int32 × Nat) × Nat := ([], 0)
noncomputable def eV_Out_countLostFrom : Nat → List AV → Mm → Option Mm := ab_ev []
noncomputable def eI_Out_countLostFrom : Nat → List AV → Mm → Option (Int32 × Mm) := ab_ev []
noncomputable def b_Out_countLostFrom_0 (f : Nat) (v0 : Nat) (v1 : Int32) (m : Mm) : Option Rs := ab_ex KT none s_Out_countLostFrom eV_Out_countLostFrom eI_Out_countLostFrom i_Out_countLostFrom h_Out_countLostFrom f 0 [some (.inr (.inr (19, some v0))), some (.inl v1), none, none] [] m
noncomputable def b_Out_countLostFrom_4 (f : Nat) (v0 : Nat) (v2 : Int32) (v3 : Int32) (m : Mm) : Option Rs := ab_ex KT none s_Out_countLostFrom eV_Out_countLostFrom eI_Out_countLostFrom i_Out_countLostFrom h_Out_countLostFrom f 4 [some (.inr (.inr (19, some v0))), none, some (.inl v2), some (.inl v3)] [] m
set_option maxRecDepth 100000 in
set_option maxHeartbeats 4000000 in
theorem b_Out_countLostFrom_0_eq (f : Nat) (v0 : Nat) (v1 : Int32) (m : Mm) : b_Out_countLostFrom_0 (f + 1) v0 v1 m =
    b_Out_countLostFrom_4 f v0 (0 : Int32) v1 m := rfl
set_option maxRecDepth 100000 in
set_option maxHeartbeats 4000000 in
theorem b_Out_countLostFrom_4_eq (f : Nat) (v0 : Nat) (v2 : Int32) (v3 : Int32) (m : Mm) : b_Out_countLostFrom_4 (f + 1) v0 v2 v3 m =
    if (m.1 60 v0 0) ≤ v3 then
      some (.inl (some (.inl v2), m))
    else
      (ab_ix v3 64).bind fun i1 =>
      if (m.1 67 (v0 + 2) i1) = (2 : Int32) then
        ab_let (v2 + (1 : Int32)) fun x2 =>
        ab_let (v3 + (1 : Int32)) fun x3 =>
        b_Out_countLostFrom_4 f v0 x2 x3 m
      else
        some (.inl (some (.inl v2), m)) := rfl
noncomputable def r_Out_countLostFrom : Nat → Int32 → Mm → Option (Int32 × Mm) := ab_seal fun v0 v1 m => ab_rI (b_Out_countLostFrom_0 50000 v0 v1 m)
theorem r_Out_countLostFrom_eq (v0 : Nat) (v1 : Int32) (m : Mm) : r_Out_countLostFrom v0 v1 m = ab_rI (b_Out_countLostFrom_0 50000 v0 v1 m) := by
  unfold r_Out_countLostFrom
  rw [ab_seal_eq]
noncomputable def c_Out_countLostFrom : List AV → Mm → Option (Int32 × Mm) := fun av m => match av with
  | [.inr (.inr (kv0, ov0)), .inl v1] => if kv0 = 19 then (ov0.bind fun v0 => r_Out_countLostFrom v0 v1 m) else none
  | _ => none
theorem c_Out_countLostFrom_inv {av : List AV} {m : Mm} {r : Int32 × Mm} (h : c_Out_countLostFrom av m = some r) : ∃ (v0 : Nat) (v1 : Int32), av = [.inr (.inr (19, some v0)), .inl v1] ∧ r_Out_countLostFrom v0 v1 m = some r := by
  unfold c_Out_countLostFrom at h
  split at h
  · rename_i kv0 ov0 v1
    by_cases hkv0 : kv0 = 19
    case neg => rw [if_neg hkv0] at h; cases h
    rw [if_pos hkv0] at h
    subst hkv0
    obtain ⟨v0, hev0, h⟩ := Option.bind_eq_some_iff.mp h
    subst hev0
    exact ⟨v0, v1, rfl, h⟩
  · cases h
def cs_Out_countLostFrom : List Nat := []
set_option maxRecDepth 100000 in
theorem E_Out_countLostFrom : ∀ (pc : Nat) (q : Ent), i_Out_countLostFrom pc = some q → ab_E KT CL ab_gW "StreamTransport$Outgoing" "countLostFrom" (some .int) prog_7_method_7_code s_Out_countLostFrom 4 pc q.1 q.2.1 q.2.2.1 q.2.2.2.1 q.2.2.2.2 := fun pc q hq =>
  ab_Eb_ok lc_Out lj_Out fl_Out (fpn_Out "countLostFrom") nw_Out na_Out nq_Out (ab_tab_all (t := t_Out_countLostFrom) (chk := fun pc q => ab_Eb (some .int) prog_7_method_7_code s_Out_countLostFrom 4 LC_Out LJ_Out FL_Out FPn_Out NW_Out NA_Out NQ_Out pc q.1 q.2.1 q.2.2.1 q.2.2.2.1 q.2.2.2.2) (by decide +kernel) hq)
set_option maxRecDepth 100000 in
theorem kp_Out_countLostFrom {av : List AV} {m : Mm} {r : Int32 × Mm} (h : c_Out_countLostFrom av m = some r) : ab_kp m r.2 := by
  obtain ⟨v0, v1, -, h⟩ := c_Out_countLostFrom_inv h
  rw [r_Out_countLostFrom_eq] at h
  have hV : ∀ a av m m', eV_Out_countLostFrom a av m = some m' → ab_kp m m' := ab_ev_all (P := fun _ m r => ab_kp m r) [] (fun q hq => by cases hq)
  have hI : ∀ a av m q, eI_Out_countLostFrom a av m = some q → ab_kp m q.2 := ab_ev_all (P := fun _ (m : Mm) (r : Int32 × Mm) => ab_kp m r.2) [] (fun q hq => by cases hq)
  exact ab_kprel (ρ := .inl (some (.inl r.1), r.2)) (ab_tab_isn (t := t_Out_countLostFrom) (by decide +kernel)) hV hI (ab_rI_inv h)
set_option maxRecDepth 100000 in
theorem cl_Out_countLostFrom (l : Launch) : ∀ (pc : Nat) (q : Ent), i_Out_countLostFrom pc = some q → ab_inv q.1 = true → ab_CR l KT CL none ab_gW "StreamTransport$Outgoing" prog_7_method_7_code 4 0 0 eV_Out_countLostFrom eI_Out_countLostFrom pc q := by
  intro pc q hq hi
  have hm : pc ∈ cs_Out_countLostFrom := ab_tab_cs (t := t_Out_countLostFrom) (by decide +kernel) hq hi
  cases hm
theorem cw_Out_countLostFrom : ab_cw y_Out_countLostFrom prog_7_method_7_code 4 1 (some .int) := ⟨ab_gW_in 564 (by decide +kernel) rfl, ab_gW_in 70 (by decide +kernel) rfl, by decide +kernel, by decide +kernel, by decide +kernel⟩
theorem is_Out_countLostFrom : Cond.instanceMethod y_Out_countLostFrom ∈ ab_gW := ab_gW_in 562 (by decide +kernel) rfl
theorem sl_Out_countLostFrom : Cond.selects "StreamTransport$Outgoing" y_Out_countLostFrom y_Out_countLostFrom ∈ ab_gW := ab_gW_in 563 (by decide +kernel) rfl
set_option maxRecDepth 100000 in
theorem cm_Out_countLostFrom (l : Launch) {av : List AV} {m : Mm} {r : Int32 × Mm} (h0 : c_Out_countLostFrom av m = some r) : ∃ (k q : Nat) (av' : List AV) (ci : Nat) (fs : List (Nat × Nat × Nat × Nat)) (z : vw_C), av = .inr (.inr (k, some q)) :: av' ∧ av'.length = 1 ∧ k ≠ 0 ∧ KT[k]? = some (.inl (ci, fs)) ∧ CL[ci]? = some z ∧ z.1 = "StreamTransport$Outgoing" ∧ ab_nos av' ∧ ab_Met l KT CL y_Out_countLostFrom (Cond.code y_Out_countLostFrom prog_7_method_7_code 4 (some .int) :: ab_gW) 0 0 none av m (some (.inl r.1)) r.2 := by
  obtain ⟨v0, v1, hav, h⟩ := c_Out_countLostFrom_inv h0
  rw [r_Out_countLostFrom_eq] at h
  have hmo : ab_mo m r.2 := ab_kp_mo (kp_Out_countLostFrom h0)
  subst hav
  exact ⟨_, _, _, _, _, _, rfl, rfl, by decide, rfl, rfl, rfl, (by intro v hv q e; subst e; simp at hv), ab_met (by decide +kernel) KT_0 KT_nd KT_k3 E_Out_countLostFrom (cl_Out_countLostFrom l) hmo (Nat.le_of_ble_eq_true rfl) (ab_rI_inv h) (fun v hv => by cases hv; exact ⟨_, rfl⟩)⟩
/-! StreamTransport$Outgoing.isDone()Z -/
def y_Out_isDone : MethodName := ⟨"StreamTransport$Outgoing", "isDone", "()Z"⟩
def t_Out_isDone (pc : Nat) : Option Ent :=
  bif Nat.blt pc 16 then
    (bif Nat.blt pc 8 then
      (bif Nat.blt pc 4 then
        (bif Nat.blt pc 1 then
          (bif Nat.beq pc 0 then some (.aload_n 0, 0, 0, 0, 0) else none)
        else
          bif Nat.beq pc 1 then some (.getfield 22, 5, 8, 0, 0) else none)
      else
        bif Nat.blt pc 5 then
          (bif Nat.beq pc 4 then some (.iconst 3, 0, 0, 0, 3) else none)
        else
          bif Nat.beq pc 5 then some (.if_icmp .eq (22), 27, 0, 0, 0) else none)
    else
      bif Nat.blt pc 12 then
        (bif Nat.blt pc 9 then
          (bif Nat.beq pc 8 then some (.aload_n 0, 0, 0, 0, 0) else none)
        else
          bif Nat.beq pc 9 then some (.getfield 18, 5, 7, 0, 0) else none)
      else
        bif Nat.blt pc 13 then
          (bif Nat.beq pc 12 then some (.iconst 3, 0, 0, 0, 3) else none)
        else
          bif Nat.beq pc 13 then some (.if_icmp .ne (18), 31, 0, 0, 0) else none)
  else
    bif Nat.blt pc 24 then
      (bif Nat.blt pc 20 then
        (bif Nat.blt pc 17 then
          (bif Nat.beq pc 16 then some (.aload_n 0, 0, 0, 0, 0) else none)
        else
          bif Nat.beq pc 17 then some (.invokevirtual 42, 32, 1, 1, 0) else none)
      else
        bif Nat.blt pc 21 then
          (bif Nat.beq pc 20 then some (.aload_n 0, 0, 0, 0, 0) else none)
        else
          bif Nat.beq pc 21 then some (.getfield 35, 5, 2, 0, 0) else none)
    else
      bif Nat.blt pc 28 then
        (bif Nat.blt pc 27 then
          (bif Nat.beq pc 24 then some (.if_icmp .ne (7), 31, 0, 0, 0) else none)
        else
          bif Nat.beq pc 27 then some (.iconst 1, 0, 0, 0, 1) else none)
      else
        bif Nat.blt pc 31 then
          (bif Nat.beq pc 28 then some (.goto 4, 32, 0, 0, 0) else none)
        else
          bif Nat.blt pc 32 then
            (bif Nat.beq pc 31 then some (.iconst 0, 0, 0, 0, 0) else none)
          else
            bif Nat.beq pc 32 then some (.ireturn, 0, 0, 1, 0) else none
def i_Out_isDone : Nat → Option Ent := ab_tab 33 t_Out_isDone
def h_Out_isDone (pc : Nat) : Nat × List Bool := bif Nat.beq pc 27 then (1, [false]) else (0, [])
def s_Out_isDone (pc : Nat) : List (Int32 × Nat) × Nat := ([], 0)
noncomputable def eV_Out_isDone : Nat → List AV → Mm → Option Mm := ab_ev []
noncomputable def eI_Out_isDone : Nat → List AV → Mm → Option (Int32 × Mm) := ab_ev [(32, c_Out_countAcked)]
noncomputable def b_Out_isDone_0 (f : Nat) (v0 : Nat) (m : Mm) : Option Rs := ab_ex KT none s_Out_isDone eV_Out_isDone eI_Out_isDone i_Out_isDone h_Out_isDone f 0 [some (.inr (.inr (19, some v0)))] [] m
noncomputable def b_Out_isDone_27 (f : Nat)  (m : Mm) : Option Rs := ab_ex KT none s_Out_isDone eV_Out_isDone eI_Out_isDone i_Out_isDone h_Out_isDone f 27 [none] [] m
set_option maxRecDepth 100000 in
set_option maxHeartbeats 4000000 in
theorem b_Out_isDone_0_eq (f : Nat) (v0 : Nat) (m : Mm) : b_Out_isDone_0 (f + 1) v0 m =
    if (m.1 65 v0 0) = (3 : Int32) then
      b_Out_isDone_27 f  m
    else
      if (m.1 64 v0 0) = (3 : Int32) then
        (r_Out_countAcked v0 m).bind fun z2 =>
        if z2.1 = (z2.2.1 59 v0 0) then
          b_Out_isDone_27 f  z2.2
        else
          (ab_bo (0 : Int32)).bind fun y3 => some (.inl (some (.inl y3), z2.2))
      else
        (ab_bo (0 : Int32)).bind fun y1 => some (.inl (some (.inl y1), m)) := rfl
set_option maxRecDepth 100000 in
set_option maxHeartbeats 4000000 in
theorem b_Out_isDone_27_eq (f : Nat)  (m : Mm) : b_Out_isDone_27 (f + 1)  m =
    (ab_bo (1 : Int32)).bind fun y1 => some (.inl (some (.inl y1), m)) := rfl
noncomputable def r_Out_isDone : Nat → Mm → Option (Int32 × Mm) := ab_seal fun v0 m => ab_rI (b_Out_isDone_0 50000 v0 m)
theorem r_Out_isDone_eq (v0 : Nat) (m : Mm) : r_Out_isDone v0 m = ab_rI (b_Out_isDone_0 50000 v0 m) := by
  unfold r_Out_isDone
  rw [ab_seal_eq]
noncomputable def c_Out_isDone : List AV → Mm → Option (Int32 × Mm) := fun av m => match av with
  | [.inr (.inr (kv0, ov0))] => if kv0 = 19 then (ov0.bind fun v0 => r_Out_isDone v0 m) else none
  | _ => none
theorem c_Out_isDone_inv {av : List AV} {m : Mm} {r : Int32 × Mm} (h : c_Out_isDone av m = some r) : ∃ (v0 : Nat), av = [.inr (.inr (19, some v0))] ∧ r_Out_isDone v0 m = some r := by
  unfold c_Out_isDone at h
  split at h
  · rename_i kv0 ov0
    by_cases hkv0 : kv0 = 19
    case neg => rw [if_neg hkv0] at h; cases h
    rw [if_pos hkv0] at h
    subst hkv0
    obtain ⟨v0, hev0, h⟩ := Option.bind_eq_some_iff.mp h
    subst hev0
    exact ⟨v0, rfl, h⟩
  · cases h
def cs_Out_isDone : List Nat := [17]
set_option maxRecDepth 100000 in
theorem E_Out_isDone : ∀ (pc : Nat) (q : Ent), i_Out_isDone pc = some q → ab_E KT CL ab_gW "StreamTransport$Outgoing" "isDone" (some .boolean) prog_7_method_5_code s_Out_isDone 1 pc q.1 q.2.1 q.2.2.1 q.2.2.2.1 q.2.2.2.2 := fun pc q hq =>
  ab_Eb_ok lc_Out lj_Out fl_Out (fpn_Out "isDone") nw_Out na_Out nq_Out (ab_tab_all (t := t_Out_isDone) (chk := fun pc q => ab_Eb (some .boolean) prog_7_method_5_code s_Out_isDone 1 LC_Out LJ_Out FL_Out FPn_Out NW_Out NA_Out NQ_Out pc q.1 q.2.1 q.2.2.1 q.2.2.2.1 q.2.2.2.2) (by decide +kernel) hq)
set_option maxRecDepth 100000 in
theorem kp_Out_isDone {av : List AV} {m : Mm} {r : Int32 × Mm} (h : c_Out_isDone av m = some r) : ab_kp m r.2 := by
  obtain ⟨v0, -, h⟩ := c_Out_isDone_inv h
  rw [r_Out_isDone_eq] at h
  have hV : ∀ a av m m', eV_Out_isDone a av m = some m' → ab_kp m m' := ab_ev_all (P := fun _ m r => ab_kp m r) [] (fun q hq => by cases hq)
  have hI : ∀ a av m q, eI_Out_isDone a av m = some q → ab_kp m q.2 := ab_ev_all (P := fun _ (m : Mm) (r : Int32 × Mm) => ab_kp m r.2) [(32, c_Out_countAcked)] (List.forall_mem_cons.mpr ⟨fun av m r h => kp_Out_countAcked h, fun q hq => by cases hq⟩)
  exact ab_kprel (ρ := .inl (some (.inl r.1), r.2)) (ab_tab_isn (t := t_Out_isDone) (by decide +kernel)) hV hI (ab_rI_inv h)
set_option maxRecDepth 100000 in
theorem cl_Out_isDone (l : Launch) : ∀ (pc : Nat) (q : Ent), i_Out_isDone pc = some q → ab_inv q.1 = true → ab_CR l KT CL none ab_gW "StreamTransport$Outgoing" prog_7_method_5_code 1 1 22 eV_Out_isDone eI_Out_isDone pc q := by
  intro pc q hq hi
  have hm : pc ∈ cs_Out_isDone := ab_tab_cs (t := t_Out_isDone) (by decide +kernel) hq hi
  simp only [cs_Out_isDone, List.mem_cons, List.not_mem_nil, or_false] at hm
  rcases hm with rfl
  · cases (Option.some.inj hq : ((.invokevirtual 42, 32, 1, 1, 0) : Ent) = q)
    exact ab_crV (C := "StreamTransport$Outgoing") (by decide +kernel) cw_Out_countAcked (ab_gW_in 832 (by decide +kernel) rfl) is_Out_countAcked sl_Out_countAcked (by decide) (fun av m m' h => by cases h) (fun av m r h => cm_Out_countAcked l h) KT_nd
theorem cw_Out_isDone : ab_cw y_Out_isDone prog_7_method_5_code 1 0 (some .boolean) := ⟨ab_gW_in 831 (by decide +kernel) rfl, ab_gW_in 70 (by decide +kernel) rfl, by decide +kernel, by decide +kernel, by decide +kernel⟩
theorem is_Out_isDone : Cond.instanceMethod y_Out_isDone ∈ ab_gW := ab_gW_in 829 (by decide +kernel) rfl
theorem sl_Out_isDone : Cond.selects "StreamTransport$Outgoing" y_Out_isDone y_Out_isDone ∈ ab_gW := ab_gW_in 830 (by decide +kernel) rfl
set_option maxRecDepth 100000 in
theorem cm_Out_isDone (l : Launch) {av : List AV} {m : Mm} {r : Int32 × Mm} (h0 : c_Out_isDone av m = some r) : ∃ (k q : Nat) (av' : List AV) (ci : Nat) (fs : List (Nat × Nat × Nat × Nat)) (z : vw_C), av = .inr (.inr (k, some q)) :: av' ∧ av'.length = 0 ∧ k ≠ 0 ∧ KT[k]? = some (.inl (ci, fs)) ∧ CL[ci]? = some z ∧ z.1 = "StreamTransport$Outgoing" ∧ ab_nos av' ∧ ab_Met l KT CL y_Out_isDone (Cond.code y_Out_isDone prog_7_method_5_code 1 (some .boolean) :: ab_gW) 1 22 none av m (some (.inl r.1)) r.2 := by
  obtain ⟨v0, hav, h⟩ := c_Out_isDone_inv h0
  rw [r_Out_isDone_eq] at h
  have hmo : ab_mo m r.2 := ab_kp_mo (kp_Out_isDone h0)
  subst hav
  exact ⟨_, _, _, _, _, _, rfl, rfl, by decide, rfl, rfl, rfl, (by intro v hv q e; subst e; simp at hv), ab_met (by decide +kernel) KT_0 KT_nd KT_k3 E_Out_isDone (cl_Out_isDone l) hmo (Nat.le_of_ble_eq_true rfl) (ab_rI_inv h) (fun v hv => by cases hv; exact ⟨_, rfl⟩)⟩
/-! StreamTransport$Outgoing.owesEndAlone()Z -/
def y_Out_owesEndAlone : MethodName := ⟨"StreamTransport$Outgoing", "owesEndAlone", "()Z"⟩
def t_Out_owesEndAlone (pc : Nat) : Option Ent :=
  bif Nat.blt pc 22 then
    (bif Nat.blt pc 11 then
      (bif Nat.blt pc 4 then
        (bif Nat.blt pc 1 then
          (bif Nat.beq pc 0 then some (.aload_n 0, 0, 0, 0, 0) else none)
        else
          bif Nat.beq pc 1 then some (.getfield 28, 5, 5, 0, 0) else none)
      else
        bif Nat.blt pc 7 then
          (bif Nat.beq pc 4 then some (.ifCond .eq (36), 40, 0, 0, 0) else none)
        else
          bif Nat.blt pc 8 then
            (bif Nat.beq pc 7 then some (.aload_n 0, 0, 0, 0, 0) else none)
          else
            bif Nat.beq pc 8 then some (.getfield 18, 5, 7, 0, 0) else none)
    else
      bif Nat.blt pc 17 then
        (bif Nat.blt pc 14 then
          (bif Nat.beq pc 11 then some (.invokestatic 49, 33, 1, 1, 0) else none)
        else
          bif Nat.beq pc 14 then some (.ifCond .eq (26), 40, 0, 0, 0) else none)
      else
        bif Nat.blt pc 18 then
          (bif Nat.beq pc 17 then some (.aload_n 0, 0, 0, 0, 0) else none)
        else
          bif Nat.blt pc 21 then
            (bif Nat.beq pc 18 then some (.getfield 46, 5, 3, 0, 0) else none)
          else
            bif Nat.beq pc 21 then some (.aload_n 0, 0, 0, 0, 0) else none)
  else
    bif Nat.blt pc 33 then
      (bif Nat.blt pc 28 then
        (bif Nat.blt pc 25 then
          (bif Nat.beq pc 22 then some (.getfield 35, 5, 2, 0, 0) else none)
        else
          bif Nat.beq pc 25 then some (.if_icmp .ne (15), 40, 0, 0, 0) else none)
      else
        bif Nat.blt pc 29 then
          (bif Nat.beq pc 28 then some (.aload_n 0, 0, 0, 0, 0) else none)
        else
          bif Nat.blt pc 32 then
            (bif Nat.beq pc 29 then some (.invokevirtual 53, 35, 1, 1, 0) else none)
          else
            bif Nat.beq pc 32 then some (.iconst (-1), 0, 0, 0, -1) else none)
    else
      bif Nat.blt pc 37 then
        (bif Nat.blt pc 36 then
          (bif Nat.beq pc 33 then some (.if_icmp .ne (7), 40, 0, 0, 0) else none)
        else
          bif Nat.beq pc 36 then some (.iconst 1, 0, 0, 0, 1) else none)
      else
        bif Nat.blt pc 40 then
          (bif Nat.beq pc 37 then some (.goto 4, 41, 0, 0, 0) else none)
        else
          bif Nat.blt pc 41 then
            (bif Nat.beq pc 40 then some (.iconst 0, 0, 0, 0, 0) else none)
          else
            bif Nat.beq pc 41 then some (.ireturn, 0, 0, 1, 0) else none
def i_Out_owesEndAlone : Nat → Option Ent := ab_tab 42 t_Out_owesEndAlone
def h_Out_owesEndAlone (pc : Nat) : Nat × List Bool := (0, [])
def s_Out_owesEndAlone (pc : Nat) : List (Int32 × Nat) × Nat := ([], 0)
noncomputable def eV_Out_owesEndAlone : Nat → List AV → Mm → Option Mm := ab_ev []
noncomputable def eI_Out_owesEndAlone : Nat → List AV → Mm → Option (Int32 × Mm) := ab_ev [(33, c_Out_isOwed), (35, c_Out_firstLost)]
noncomputable def b_Out_owesEndAlone_0 (f : Nat) (v0 : Nat) (m : Mm) : Option Rs := ab_ex KT none s_Out_owesEndAlone eV_Out_owesEndAlone eI_Out_owesEndAlone i_Out_owesEndAlone h_Out_owesEndAlone f 0 [some (.inr (.inr (19, some v0)))] [] m
set_option maxRecDepth 100000 in
set_option maxHeartbeats 4000000 in
theorem b_Out_owesEndAlone_0_eq (f : Nat) (v0 : Nat) (m : Mm) : b_Out_owesEndAlone_0 (f + 1) v0 m =
    if (m.1 62 v0 0) = 0 then
      (ab_bo (0 : Int32)).bind fun y1 => some (.inl (some (.inl y1), m))
    else
      (r_Out_isOwed (m.1 64 v0 0) m).bind fun z2 =>
      if z2.1 = 0 then
        (ab_bo (0 : Int32)).bind fun y3 => some (.inl (some (.inl y3), z2.2))
      else
        if (z2.2.1 60 v0 0) = (z2.2.1 59 v0 0) then
          (r_Out_firstLost v0 z2.2).bind fun z5 =>
          if z5.1 = (-1 : Int32) then
            (ab_bo (1 : Int32)).bind fun y7 => some (.inl (some (.inl y7), z5.2))
          else
            (ab_bo (0 : Int32)).bind fun y6 => some (.inl (some (.inl y6), z5.2))
        else
          (ab_bo (0 : Int32)).bind fun y4 => some (.inl (some (.inl y4), z2.2)) := rfl
noncomputable def r_Out_owesEndAlone : Nat → Mm → Option (Int32 × Mm) := ab_seal fun v0 m => ab_rI (b_Out_owesEndAlone_0 50000 v0 m)
theorem r_Out_owesEndAlone_eq (v0 : Nat) (m : Mm) : r_Out_owesEndAlone v0 m = ab_rI (b_Out_owesEndAlone_0 50000 v0 m) := by
  unfold r_Out_owesEndAlone
  rw [ab_seal_eq]
noncomputable def c_Out_owesEndAlone : List AV → Mm → Option (Int32 × Mm) := fun av m => match av with
  | [.inr (.inr (kv0, ov0))] => if kv0 = 19 then (ov0.bind fun v0 => r_Out_owesEndAlone v0 m) else none
  | _ => none
theorem c_Out_owesEndAlone_inv {av : List AV} {m : Mm} {r : Int32 × Mm} (h : c_Out_owesEndAlone av m = some r) : ∃ (v0 : Nat), av = [.inr (.inr (19, some v0))] ∧ r_Out_owesEndAlone v0 m = some r := by
  unfold c_Out_owesEndAlone at h
  split at h
  · rename_i kv0 ov0
    by_cases hkv0 : kv0 = 19
    case neg => rw [if_neg hkv0] at h; cases h
    rw [if_pos hkv0] at h
    subst hkv0
    obtain ⟨v0, hev0, h⟩ := Option.bind_eq_some_iff.mp h
    subst hev0
    exact ⟨v0, rfl, h⟩
  · cases h
def cs_Out_owesEndAlone : List Nat := [11, 29]
set_option maxRecDepth 100000 in
theorem E_Out_owesEndAlone : ∀ (pc : Nat) (q : Ent), i_Out_owesEndAlone pc = some q → ab_E KT CL ab_gW "StreamTransport$Outgoing" "owesEndAlone" (some .boolean) prog_7_method_9_code s_Out_owesEndAlone 1 pc q.1 q.2.1 q.2.2.1 q.2.2.2.1 q.2.2.2.2 := fun pc q hq =>
  ab_Eb_ok lc_Out lj_Out fl_Out (fpn_Out "owesEndAlone") nw_Out na_Out nq_Out (ab_tab_all (t := t_Out_owesEndAlone) (chk := fun pc q => ab_Eb (some .boolean) prog_7_method_9_code s_Out_owesEndAlone 1 LC_Out LJ_Out FL_Out FPn_Out NW_Out NA_Out NQ_Out pc q.1 q.2.1 q.2.2.1 q.2.2.2.1 q.2.2.2.2) (by decide +kernel) hq)
set_option maxRecDepth 100000 in
theorem kp_Out_owesEndAlone {av : List AV} {m : Mm} {r : Int32 × Mm} (h : c_Out_owesEndAlone av m = some r) : ab_kp m r.2 := by
  obtain ⟨v0, -, h⟩ := c_Out_owesEndAlone_inv h
  rw [r_Out_owesEndAlone_eq] at h
  have hV : ∀ a av m m', eV_Out_owesEndAlone a av m = some m' → ab_kp m m' := ab_ev_all (P := fun _ m r => ab_kp m r) [] (fun q hq => by cases hq)
  have hI : ∀ a av m q, eI_Out_owesEndAlone a av m = some q → ab_kp m q.2 := ab_ev_all (P := fun _ (m : Mm) (r : Int32 × Mm) => ab_kp m r.2) [(33, c_Out_isOwed), (35, c_Out_firstLost)] (List.forall_mem_cons.mpr ⟨fun av m r h => kp_Out_isOwed h, List.forall_mem_cons.mpr ⟨fun av m r h => kp_Out_firstLost h, fun q hq => by cases hq⟩⟩)
  exact ab_kprel (ρ := .inl (some (.inl r.1), r.2)) (ab_tab_isn (t := t_Out_owesEndAlone) (by decide +kernel)) hV hI (ab_rI_inv h)
set_option maxRecDepth 100000 in
theorem cl_Out_owesEndAlone (l : Launch) : ∀ (pc : Nat) (q : Ent), i_Out_owesEndAlone pc = some q → ab_inv q.1 = true → ab_CR l KT CL none ab_gW "StreamTransport$Outgoing" prog_7_method_9_code 1 1 21 eV_Out_owesEndAlone eI_Out_owesEndAlone pc q := by
  intro pc q hq hi
  have hm : pc ∈ cs_Out_owesEndAlone := ab_tab_cs (t := t_Out_owesEndAlone) (by decide +kernel) hq hi
  simp only [cs_Out_owesEndAlone, List.mem_cons, List.not_mem_nil, or_false] at hm
  rcases hm with rfl | rfl
  · cases (Option.some.inj hq : ((.invokestatic 49, 33, 1, 1, 0) : Ent) = q)
    exact ab_crS (by decide +kernel) cw_Out_isOwed (ab_gW_in 533 (by decide +kernel) rfl) st_Out_isOwed (by decide) (fun av m m' h => by cases h) (fun av m r h => cm_Out_isOwed l h) KT_nd
  · cases (Option.some.inj hq : ((.invokevirtual 53, 35, 1, 1, 0) : Ent) = q)
    exact ab_crV (C := "StreamTransport$Outgoing") (by decide +kernel) cw_Out_firstLost (ab_gW_in 569 (by decide +kernel) rfl) is_Out_firstLost sl_Out_firstLost (by decide) (fun av m m' h => by cases h) (fun av m r h => cm_Out_firstLost l h) KT_nd
theorem cw_Out_owesEndAlone : ab_cw y_Out_owesEndAlone prog_7_method_9_code 1 0 (some .boolean) := ⟨ab_gW_in 568 (by decide +kernel) rfl, ab_gW_in 70 (by decide +kernel) rfl, by decide +kernel, by decide +kernel, by decide +kernel⟩
theorem is_Out_owesEndAlone : Cond.instanceMethod y_Out_owesEndAlone ∈ ab_gW := ab_gW_in 566 (by decide +kernel) rfl
theorem sl_Out_owesEndAlone : Cond.selects "StreamTransport$Outgoing" y_Out_owesEndAlone y_Out_owesEndAlone ∈ ab_gW := ab_gW_in 567 (by decide +kernel) rfl
set_option maxRecDepth 100000 in
theorem cm_Out_owesEndAlone (l : Launch) {av : List AV} {m : Mm} {r : Int32 × Mm} (h0 : c_Out_owesEndAlone av m = some r) : ∃ (k q : Nat) (av' : List AV) (ci : Nat) (fs : List (Nat × Nat × Nat × Nat)) (z : vw_C), av = .inr (.inr (k, some q)) :: av' ∧ av'.length = 0 ∧ k ≠ 0 ∧ KT[k]? = some (.inl (ci, fs)) ∧ CL[ci]? = some z ∧ z.1 = "StreamTransport$Outgoing" ∧ ab_nos av' ∧ ab_Met l KT CL y_Out_owesEndAlone (Cond.code y_Out_owesEndAlone prog_7_method_9_code 1 (some .boolean) :: ab_gW) 1 21 none av m (some (.inl r.1)) r.2 := by
  obtain ⟨v0, hav, h⟩ := c_Out_owesEndAlone_inv h0
  rw [r_Out_owesEndAlone_eq] at h
  have hmo : ab_mo m r.2 := ab_kp_mo (kp_Out_owesEndAlone h0)
  subst hav
  exact ⟨_, _, _, _, _, _, rfl, rfl, by decide, rfl, rfl, rfl, (by intro v hv q e; subst e; simp at hv), ab_met (by decide +kernel) KT_0 KT_nd KT_k3 E_Out_owesEndAlone (cl_Out_owesEndAlone l) hmo (Nat.le_of_ble_eq_true rfl) (ab_rI_inv h) (fun v hv => by cases hv; exact ⟨_, rfl⟩)⟩
/-! StreamTransport$Outgoing.mark(LStreamTransport$Sent;II)V -/
def y_Out_mark : MethodName := ⟨"StreamTransport$Outgoing", "mark", "(LStreamTransport$Sent;II)V"⟩
def t_Out_mark (pc : Nat) : Option Ent :=
  bif Nat.blt pc 52 then
    (bif Nat.blt pc 21 then
      (bif Nat.blt pc 11 then
        (bif Nat.blt pc 5 then
          (bif Nat.blt pc 1 then
            (bif Nat.beq pc 0 then some (.aload_n 1, 1, 0, 0, 0) else none)
          else
            bif Nat.blt pc 4 then
              (bif Nat.beq pc 1 then some (.getfield 56, 8, 4, 1, 0) else none)
            else
              bif Nat.beq pc 4 then some (.iload_n 2, 2, 0, 0, 0) else none)
        else
          bif Nat.blt pc 7 then
            (bif Nat.blt pc 6 then
              (bif Nat.beq pc 5 then some (.iaload, 0, 0, 0, 0) else none)
            else
              bif Nat.beq pc 6 then some (.aload_n 1, 1, 0, 0, 0) else none)
          else
            bif Nat.blt pc 10 then
              (bif Nat.beq pc 7 then some (.getfield 61, 8, 5, 1, 0) else none)
            else
              bif Nat.beq pc 10 then some (.iload_n 2, 2, 0, 0, 0) else none)
      else
        bif Nat.blt pc 15 then
          (bif Nat.blt pc 12 then
            (bif Nat.beq pc 11 then some (.iaload, 0, 0, 0, 0) else none)
          else
            bif Nat.blt pc 13 then
              (bif Nat.beq pc 12 then some (.iadd, 0, 0, 0, 0) else none)
            else
              bif Nat.beq pc 13 then some (.istore 4, 4, 0, 0, 0) else none)
        else
          bif Nat.blt pc 19 then
            (bif Nat.blt pc 16 then
              (bif Nat.beq pc 15 then some (.aload_n 1, 1, 0, 0, 0) else none)
            else
              bif Nat.beq pc 16 then some (.getfield 56, 8, 4, 1, 0) else none)
          else
            bif Nat.blt pc 20 then
              (bif Nat.beq pc 19 then some (.iload_n 2, 2, 0, 0, 0) else none)
            else
              bif Nat.beq pc 20 then some (.iaload, 0, 0, 0, 0) else none)
    else
      bif Nat.blt pc 37 then
        (bif Nat.blt pc 27 then
          (bif Nat.blt pc 23 then
            (bif Nat.beq pc 21 then some (.istore 5, 5, 0, 0, 0) else none)
          else
            bif Nat.blt pc 25 then
              (bif Nat.beq pc 23 then some (.iload 5, 5, 0, 0, 0) else none)
            else
              bif Nat.beq pc 25 then some (.iload 4, 4, 0, 0, 0) else none)
        else
          bif Nat.blt pc 32 then
            (bif Nat.blt pc 30 then
              (bif Nat.beq pc 27 then some (.if_icmp .ge (35), 62, 0, 0, 0) else none)
            else
              bif Nat.beq pc 30 then some (.iload 5, 5, 0, 0, 0) else none)
          else
            bif Nat.blt pc 34 then
              (bif Nat.beq pc 32 then some (.bipush 64, 0, 0, 0, 64) else none)
            else
              bif Nat.beq pc 34 then some (.if_icmp .ge (28), 62, 0, 0, 0) else none)
      else
        bif Nat.blt pc 44 then
          (bif Nat.blt pc 41 then
            (bif Nat.blt pc 38 then
              (bif Nat.beq pc 37 then some (.aload_n 0, 0, 0, 0, 0) else none)
            else
              bif Nat.beq pc 38 then some (.getfield 15, 5, 1, 1, 0) else none)
          else
            bif Nat.blt pc 43 then
              (bif Nat.beq pc 41 then some (.iload 5, 5, 0, 0, 0) else none)
            else
              bif Nat.beq pc 43 then some (.iaload, 0, 0, 0, 0) else none)
        else
          bif Nat.blt pc 48 then
            (bif Nat.blt pc 45 then
              (bif Nat.beq pc 44 then some (.iconst 3, 0, 0, 0, 3) else none)
            else
              bif Nat.beq pc 45 then some (.if_icmp .eq (11), 56, 0, 0, 0) else none)
          else
            bif Nat.blt pc 49 then
              (bif Nat.beq pc 48 then some (.aload_n 0, 0, 0, 0, 0) else none)
            else
              bif Nat.beq pc 49 then some (.getfield 15, 5, 1, 1, 0) else none)
  else
    bif Nat.blt pc 80 then
      (bif Nat.blt pc 66 then
        (bif Nat.blt pc 56 then
          (bif Nat.blt pc 54 then
            (bif Nat.beq pc 52 then some (.iload 5, 5, 0, 0, 0) else none)
          else
            bif Nat.blt pc 55 then
              (bif Nat.beq pc 54 then some (.iload_n 3, 3, 0, 0, 0) else none)
            else
              bif Nat.beq pc 55 then some (.iastore, 0, 0, 0, 0) else none)
        else
          bif Nat.blt pc 62 then
            (bif Nat.blt pc 59 then
              (bif Nat.beq pc 56 then some (.iinc 5 1, 5, 0, 0, 1) else none)
            else
              bif Nat.beq pc 59 then some (.goto (-36), 23, 0, 0, 0) else none)
          else
            bif Nat.blt pc 63 then
              (bif Nat.beq pc 62 then some (.aload_n 1, 1, 0, 0, 0) else none)
            else
              bif Nat.beq pc 63 then some (.getfield 64, 8, 6, 1, 0) else none)
      else
        bif Nat.blt pc 72 then
          (bif Nat.blt pc 68 then
            (bif Nat.blt pc 67 then
              (bif Nat.beq pc 66 then some (.iload_n 2, 2, 0, 0, 0) else none)
            else
              bif Nat.beq pc 67 then some (.baload, 0, 0, 0, 0) else none)
          else
            bif Nat.blt pc 71 then
              (bif Nat.beq pc 68 then some (.ifCond .eq (16), 84, 0, 0, 0) else none)
            else
              bif Nat.beq pc 71 then some (.aload_n 0, 0, 0, 0, 0) else none)
        else
          bif Nat.blt pc 76 then
            (bif Nat.blt pc 75 then
              (bif Nat.beq pc 72 then some (.getfield 18, 5, 7, 0, 0) else none)
            else
              bif Nat.beq pc 75 then some (.iconst 3, 0, 0, 0, 3) else none)
          else
            bif Nat.blt pc 79 then
              (bif Nat.beq pc 76 then some (.if_icmp .eq (8), 84, 0, 0, 0) else none)
            else
              bif Nat.beq pc 79 then some (.aload_n 0, 0, 0, 0, 0) else none)
    else
      bif Nat.blt pc 93 then
        (bif Nat.blt pc 85 then
          (bif Nat.blt pc 81 then
            (bif Nat.beq pc 80 then some (.iload_n 3, 3, 0, 0, 0) else none)
          else
            bif Nat.blt pc 84 then
              (bif Nat.beq pc 81 then some (.putfield 18, 5, 7, 0, 0) else none)
            else
              bif Nat.beq pc 84 then some (.aload_n 1, 1, 0, 0, 0) else none)
        else
          bif Nat.blt pc 89 then
            (bif Nat.blt pc 88 then
              (bif Nat.beq pc 85 then some (.getfield 68, 8, 7, 1, 0) else none)
            else
              bif Nat.beq pc 88 then some (.iload_n 2, 2, 0, 0, 0) else none)
          else
            bif Nat.blt pc 90 then
              (bif Nat.beq pc 89 then some (.baload, 0, 0, 0, 0) else none)
            else
              bif Nat.beq pc 90 then some (.ifCond .eq (16), 106, 0, 0, 0) else none)
      else
        bif Nat.blt pc 101 then
          (bif Nat.blt pc 97 then
            (bif Nat.blt pc 94 then
              (bif Nat.beq pc 93 then some (.aload_n 0, 0, 0, 0, 0) else none)
            else
              bif Nat.beq pc 94 then some (.getfield 22, 5, 8, 0, 0) else none)
          else
            bif Nat.blt pc 98 then
              (bif Nat.beq pc 97 then some (.iconst 3, 0, 0, 0, 3) else none)
            else
              bif Nat.beq pc 98 then some (.if_icmp .eq (8), 106, 0, 0, 0) else none)
        else
          bif Nat.blt pc 103 then
            (bif Nat.blt pc 102 then
              (bif Nat.beq pc 101 then some (.aload_n 0, 0, 0, 0, 0) else none)
            else
              bif Nat.beq pc 102 then some (.iload_n 3, 3, 0, 0, 0) else none)
          else
            bif Nat.blt pc 106 then
              (bif Nat.beq pc 103 then some (.putfield 22, 5, 8, 0, 0) else none)
            else
              bif Nat.beq pc 106 then some (.return_, 0, 0, 0, 0) else none
def i_Out_mark : Nat → Option Ent := ab_tab 107 t_Out_mark
def h_Out_mark (pc : Nat) : Nat × List Bool := bif Nat.beq pc 23 then (1, [true, true, true, true, true, true]) else bif Nat.beq pc 56 then (1, [true, true, true, true, true, true]) else bif Nat.beq pc 62 then (1, [true, true, true, true, false, false]) else bif Nat.beq pc 84 then (1, [true, true, true, true, false, false]) else (0, [])
def s_Out_mark (pc : Nat) : List (Int32 × Nat) × Nat := ([], 0)
noncomputable def eV_Out_mark : Nat → List AV → Mm → Option Mm := ab_ev []
noncomputable def eI_Out_mark : Nat → List AV → Mm → Option (Int32 × Mm) := ab_ev []
noncomputable def b_Out_mark_0 (f : Nat) (v0 : Nat) (v1 : Nat) (v2 : Int32) (v3 : Int32) (m : Mm) : Option Rs := ab_ex KT none s_Out_mark eV_Out_mark eI_Out_mark i_Out_mark h_Out_mark f 0 [some (.inr (.inr (19, some v0))), some (.inr (.inr (22, some v1))), some (.inl v2), some (.inl v3), none, none] [] m
noncomputable def b_Out_mark_23 (f : Nat) (v0 : Nat) (v1 : Nat) (v2 : Int32) (v3 : Int32) (v4 : Int32) (v5 : Int32) (m : Mm) : Option Rs := ab_ex KT none s_Out_mark eV_Out_mark eI_Out_mark i_Out_mark h_Out_mark f 23 [some (.inr (.inr (19, some v0))), some (.inr (.inr (22, some v1))), some (.inl v2), some (.inl v3), some (.inl v4), some (.inl v5)] [] m
noncomputable def b_Out_mark_56 (f : Nat) (v0 : Nat) (v1 : Nat) (v2 : Int32) (v3 : Int32) (v4 : Int32) (v5 : Int32) (m : Mm) : Option Rs := ab_ex KT none s_Out_mark eV_Out_mark eI_Out_mark i_Out_mark h_Out_mark f 56 [some (.inr (.inr (19, some v0))), some (.inr (.inr (22, some v1))), some (.inl v2), some (.inl v3), some (.inl v4), some (.inl v5)] [] m
noncomputable def b_Out_mark_62 (f : Nat) (v0 : Nat) (v1 : Nat) (v2 : Int32) (v3 : Int32) (m : Mm) : Option Rs := ab_ex KT none s_Out_mark eV_Out_mark eI_Out_mark i_Out_mark h_Out_mark f 62 [some (.inr (.inr (19, some v0))), some (.inr (.inr (22, some v1))), some (.inl v2), some (.inl v3), none, none] [] m
noncomputable def b_Out_mark_84 (f : Nat) (v0 : Nat) (v1 : Nat) (v2 : Int32) (v3 : Int32) (m : Mm) : Option Rs := ab_ex KT none s_Out_mark eV_Out_mark eI_Out_mark i_Out_mark h_Out_mark f 84 [some (.inr (.inr (19, some v0))), some (.inr (.inr (22, some v1))), some (.inl v2), some (.inl v3), none, none] [] m
set_option maxRecDepth 100000 in
set_option maxHeartbeats 4000000 in
theorem b_Out_mark_0_eq (f : Nat) (v0 : Nat) (v1 : Nat) (v2 : Int32) (v3 : Int32) (m : Mm) : b_Out_mark_0 (f + 1) v0 v1 v2 v3 m =
    (ab_ix v2 4).bind fun i1 =>
    (ab_ix v2 4).bind fun i2 =>
    ab_let (((m.1 77 (v1 + 2) i1) + (m.1 78 (v1 + 3) i2))) fun x3 =>
    (ab_ix v2 4).bind fun i4 =>
    ab_let ((m.1 77 (v1 + 2) i4)) fun x5 =>
    b_Out_mark_23 f v0 v1 v2 v3 x3 x5 m := rfl
set_option maxRecDepth 100000 in
set_option maxHeartbeats 4000000 in
theorem b_Out_mark_23_eq (f : Nat) (v0 : Nat) (v1 : Nat) (v2 : Int32) (v3 : Int32) (v4 : Int32) (v5 : Int32) (m : Mm) : b_Out_mark_23 (f + 1) v0 v1 v2 v3 v4 v5 m =
    if v4 ≤ v5 then
      b_Out_mark_62 f v0 v1 v2 v3 m
    else
      if (64 : Int32) ≤ v5 then
        b_Out_mark_62 f v0 v1 v2 v3 m
      else
        (ab_ix v5 64).bind fun i1 =>
        if (m.1 67 (v0 + 2) i1) = (3 : Int32) then
          b_Out_mark_56 f v0 v1 v2 v3 v4 v5 m
        else
          (ab_ix v5 64).bind fun i2 =>
          ab_let (ab_uI m 67 (v0 + 2) i2 v3) fun m3 =>
          b_Out_mark_56 f v0 v1 v2 v3 v4 v5 m3 := rfl
set_option maxRecDepth 100000 in
set_option maxHeartbeats 4000000 in
theorem b_Out_mark_56_eq (f : Nat) (v0 : Nat) (v1 : Nat) (v2 : Int32) (v3 : Int32) (v4 : Int32) (v5 : Int32) (m : Mm) : b_Out_mark_56 (f + 1) v0 v1 v2 v3 v4 v5 m =
    ab_let (v5 + (1 : Int32)) fun x1 =>
    b_Out_mark_23 f v0 v1 v2 v3 v4 x1 m := rfl
set_option maxRecDepth 100000 in
set_option maxHeartbeats 4000000 in
theorem b_Out_mark_62_eq (f : Nat) (v0 : Nat) (v1 : Nat) (v2 : Int32) (v3 : Int32) (m : Mm) : b_Out_mark_62 (f + 1) v0 v1 v2 v3 m =
    (ab_ix v2 4).bind fun i1 =>
    if (m.1 79 (v1 + 4) i1) = 0 then
      b_Out_mark_84 f v0 v1 v2 v3 m
    else
      if (m.1 64 v0 0) = (3 : Int32) then
        b_Out_mark_84 f v0 v1 v2 v3 m
      else
        ab_let (ab_uI m 64 v0 0 v3) fun m2 =>
        b_Out_mark_84 f v0 v1 v2 v3 m2 := rfl
set_option maxRecDepth 100000 in
set_option maxHeartbeats 4000000 in
theorem b_Out_mark_84_eq (f : Nat) (v0 : Nat) (v1 : Nat) (v2 : Int32) (v3 : Int32) (m : Mm) : b_Out_mark_84 (f + 1) v0 v1 v2 v3 m =
    (ab_ix v2 4).bind fun i1 =>
    if (m.1 80 (v1 + 5) i1) = 0 then
      some (.inl (none, m))
    else
      if (m.1 65 v0 0) = (3 : Int32) then
        some (.inl (none, m))
      else
        ab_let (ab_uI m 65 v0 0 v3) fun m2 =>
        some (.inl (none, m2)) := rfl
noncomputable def r_Out_mark : Nat → Nat → Int32 → Int32 → Mm → Option Mm := ab_seal fun v0 v1 v2 v3 m => ab_rV (b_Out_mark_0 50000 v0 v1 v2 v3 m)
theorem r_Out_mark_eq (v0 : Nat) (v1 : Nat) (v2 : Int32) (v3 : Int32) (m : Mm) : r_Out_mark v0 v1 v2 v3 m = ab_rV (b_Out_mark_0 50000 v0 v1 v2 v3 m) := by
  unfold r_Out_mark
  rw [ab_seal_eq]
noncomputable def c_Out_mark : List AV → Mm → Option Mm := fun av m => match av with
  | [.inr (.inr (kv0, ov0)), .inr (.inr (kv1, ov1)), .inl v2, .inl v3] => if kv0 = 19 then (if kv1 = 22 then (ov0.bind fun v0 => ov1.bind fun v1 => r_Out_mark v0 v1 v2 v3 m) else none) else none
  | _ => none
theorem c_Out_mark_inv {av : List AV} {m : Mm} {r : Mm} (h : c_Out_mark av m = some r) : ∃ (v0 : Nat) (v1 : Nat) (v2 : Int32) (v3 : Int32), av = [.inr (.inr (19, some v0)), .inr (.inr (22, some v1)), .inl v2, .inl v3] ∧ r_Out_mark v0 v1 v2 v3 m = some r := by
  unfold c_Out_mark at h
  split at h
  · rename_i kv0 ov0 kv1 ov1 v2 v3
    by_cases hkv0 : kv0 = 19
    case neg => rw [if_neg hkv0] at h; cases h
    rw [if_pos hkv0] at h
    subst hkv0
    by_cases hkv1 : kv1 = 22
    case neg => rw [if_neg hkv1] at h; cases h
    rw [if_pos hkv1] at h
    subst hkv1
    obtain ⟨v0, hev0, h⟩ := Option.bind_eq_some_iff.mp h
    obtain ⟨v1, hev1, h⟩ := Option.bind_eq_some_iff.mp h
    subst hev0
    subst hev1
    exact ⟨v0, v1, v2, v3, rfl, h⟩
  · cases h
def cs_Out_mark : List Nat := []
set_option maxRecDepth 100000 in
theorem E_Out_mark : ∀ (pc : Nat) (q : Ent), i_Out_mark pc = some q → ab_E KT CL ab_gW "StreamTransport$Outgoing" "mark" none prog_7_method_11_code s_Out_mark 6 pc q.1 q.2.1 q.2.2.1 q.2.2.2.1 q.2.2.2.2 := fun pc q hq =>
  ab_Eb_ok lc_Out lj_Out fl_Out (fpn_Out "mark") nw_Out na_Out nq_Out (ab_tab_all (t := t_Out_mark) (chk := fun pc q => ab_Eb none prog_7_method_11_code s_Out_mark 6 LC_Out LJ_Out FL_Out FPn_Out NW_Out NA_Out NQ_Out pc q.1 q.2.1 q.2.2.1 q.2.2.2.1 q.2.2.2.2) (by decide +kernel) hq)
set_option maxRecDepth 100000 in
theorem kp_Out_mark {av : List AV} {m : Mm} {r : Mm} (h : c_Out_mark av m = some r) : ab_kp m r := by
  obtain ⟨v0, v1, v2, v3, -, h⟩ := c_Out_mark_inv h
  rw [r_Out_mark_eq] at h
  have hV : ∀ a av m m', eV_Out_mark a av m = some m' → ab_kp m m' := ab_ev_all (P := fun _ m r => ab_kp m r) [] (fun q hq => by cases hq)
  have hI : ∀ a av m q, eI_Out_mark a av m = some q → ab_kp m q.2 := ab_ev_all (P := fun _ (m : Mm) (r : Int32 × Mm) => ab_kp m r.2) [] (fun q hq => by cases hq)
  exact ab_kprel (ρ := .inl (none, r)) (ab_tab_isn (t := t_Out_mark) (by decide +kernel)) hV hI (ab_rV_inv h)
set_option maxRecDepth 100000 in
theorem cl_Out_mark (l : Launch) : ∀ (pc : Nat) (q : Ent), i_Out_mark pc = some q → ab_inv q.1 = true → ab_CR l KT CL none ab_gW "StreamTransport$Outgoing" prog_7_method_11_code 6 0 0 eV_Out_mark eI_Out_mark pc q := by
  intro pc q hq hi
  have hm : pc ∈ cs_Out_mark := ab_tab_cs (t := t_Out_mark) (by decide +kernel) hq hi
  cases hm
theorem cw_Out_mark : ab_cw y_Out_mark prog_7_method_11_code 6 3 none := ⟨ab_gW_in 597 (by decide +kernel) rfl, ab_gW_in 70 (by decide +kernel) rfl, by decide +kernel, by decide +kernel, by decide +kernel⟩
theorem is_Out_mark : Cond.instanceMethod y_Out_mark ∈ ab_gW := ab_gW_in 595 (by decide +kernel) rfl
theorem sl_Out_mark : Cond.selects "StreamTransport$Outgoing" y_Out_mark y_Out_mark ∈ ab_gW := ab_gW_in 596 (by decide +kernel) rfl
set_option maxRecDepth 100000 in
theorem cm_Out_mark (l : Launch) {av : List AV} {m : Mm} {r : Mm} (h0 : c_Out_mark av m = some r) : ∃ (k q : Nat) (av' : List AV) (ci : Nat) (fs : List (Nat × Nat × Nat × Nat)) (z : vw_C), av = .inr (.inr (k, some q)) :: av' ∧ av'.length = 3 ∧ k ≠ 0 ∧ KT[k]? = some (.inl (ci, fs)) ∧ CL[ci]? = some z ∧ z.1 = "StreamTransport$Outgoing" ∧ ab_nos av' ∧ ab_Met l KT CL y_Out_mark (Cond.code y_Out_mark prog_7_method_11_code 6 none :: ab_gW) 0 0 none av m none r := by
  obtain ⟨v0, v1, v2, v3, hav, h⟩ := c_Out_mark_inv h0
  rw [r_Out_mark_eq] at h
  have hmo : ab_mo m r := ab_kp_mo (kp_Out_mark h0)
  subst hav
  exact ⟨_, _, _, _, _, _, rfl, rfl, by decide, rfl, rfl, rfl, (by intro v hv q e; subst e; simp at hv), ab_met (by decide +kernel) KT_0 KT_nd KT_k3 E_Out_mark (cl_Out_mark l) hmo (Nat.le_of_ble_eq_true rfl) (ab_rV_inv h) (fun v hv => by cases hv)⟩
end
