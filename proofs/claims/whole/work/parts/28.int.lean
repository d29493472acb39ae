section
def FLp_Int : List ((Nat × Nat × Nat) × Nat) := [((11, 2, 0), 213), ((17, 2, 1), 215), ((21, 2, 2), 216), ((24, 2, 3), 217), ((30, 1, 1), 184), ((33, 1, 0), 183), ((44, 6, 0), 143), ((65, 1, 5), 195), ((69, 1, 4), 192), ((80, 1, 2), 188), ((103, 1, 6), 197), ((109, 2, 4), 219), ((112, 8, 2), 412), ((117, 8, 3), 414)]
def FL_Int : List (Nat × Nat × Nat) := [(11, 2, 0), (17, 2, 1), (21, 2, 2), (24, 2, 3), (30, 1, 1), (33, 1, 0), (44, 6, 0), (65, 1, 5), (69, 1, 4), (80, 1, 2), (103, 1, 6), (109, 2, 4), (112, 8, 2), (117, 8, 3)]
theorem fl_Int : ∀ q ∈ FL_Int, ab_fld CL ab_gW "StreamTransport$Intake" q.1 q.2.1 q.2.2 := ab_flb_ok (own := "StreamTransport$Intake") (l := FLp_Int) (by decide +kernel)
def FPnp_Int : List ((Nat × Nat × Nat) × Nat) := [((24, 2, 3), 217), ((30, 1, 1), 184), ((65, 1, 5), 195), ((69, 1, 4), 192), ((80, 1, 2), 188), ((103, 1, 6), 197), ((109, 2, 4), 219), ((112, 8, 2), 412)]
def FPn_Int : List (Nat × Nat × Nat) := [(24, 2, 3), (30, 1, 1), (65, 1, 5), (69, 1, 4), (80, 1, 2), (103, 1, 6), (109, 2, 4), (112, 8, 2)]
theorem fpn_Int (nm : String) : ∀ q ∈ FPn_Int, ∃ ty, ab_fldp CL ab_gW "StreamTransport$Intake" nm q.1 q.2.1 q.2.2 ty ∧ ∀ (k t r k' d' : Nat), ab_fs KT q.2.1 q.2.2 k = some (t, r, k', d') → (t = 0 → ty = .int) ∧ (t = 1 → ty = .boolean) ∧ (t = 2 → ((∃ n, ty = .object n) ∨ ∃ t, ty = .array t) ∧ k' ≠ 0) := ab_fpb_ok (own := "StreamTransport$Intake") (nm := nm) (l := FPnp_Int) (ab_fpn_ok (by decide +kernel))
def FPip_Int : List ((Nat × Nat × Nat) × Nat) := [((11, 2, 0), 213), ((17, 2, 1), 215), ((21, 2, 2), 216), ((24, 2, 3), 217), ((30, 1, 1), 184), ((65, 1, 5), 195), ((69, 1, 4), 192), ((80, 1, 2), 188), ((103, 1, 6), 197), ((109, 2, 4), 219), ((112, 8, 2), 412)]
def FPi_Int : List (Nat × Nat × Nat) := [(11, 2, 0), (17, 2, 1), (21, 2, 2), (24, 2, 3), (30, 1, 1), (65, 1, 5), (69, 1, 4), (80, 1, 2), (103, 1, 6), (109, 2, 4), (112, 8, 2)]
theorem fpi_Int : ∀ q ∈ FPi_Int, ∃ ty, ab_fldp CL ab_gW "StreamTransport$Intake" "<init>" q.1 q.2.1 q.2.2 ty ∧ ∀ (k t r k' d' : Nat), ab_fs KT q.2.1 q.2.2 k = some (t, r, k', d') → (t = 0 → ty = .int) ∧ (t = 1 → ty = .boolean) ∧ (t = 2 → ((∃ n, ty = .object n) ∨ ∃ t, ty = .array t) ∧ k' ≠ 0) := ab_fpb_ok (own := "StreamTransport$Intake") (nm := "<init>") (l := FPip_Int) (by decide +kernel)
def LCp_Int : List ((Nat × Int32) × Nat) := []
def LC_Int : List (Nat × Int32) := []
theorem lc_Int : ∀ q ∈ LC_Int, Cond.constant "StreamTransport$Intake" q.1 q.2 ∈ ab_gW := ab_lcb (own := "StreamTransport$Intake") (l := LCp_Int) (by decide +kernel)
def LJp_Int : List ((Nat × Nat) × Nat) := []
def LJ_Int : List (Nat × Nat) := []
theorem lj_Int : ∀ q ∈ LJ_Int, Cond.constantLong "StreamTransport$Intake" q.1 (Int64.ofNat q.2) ∈ ab_gW := ab_ljb (own := "StreamTransport$Intake") (l := LJp_Int) (by decide +kernel)
def NWp_Int : List ((Nat × Nat) × Nat × Nat × Nat) := [((9, 78), 172, 174, 67)]
def NW_Int : List (Nat × Nat) := [(9, 78)]
theorem nw_Int : ∀ q ∈ NW_Int, ab_newok KT CL ab_gW "StreamTransport$Intake" q.1 q.2 := ab_nwb_ok (own := "StreamTransport$Intake") (l := NWp_Int) (by decide +kernel)
def NQp_Int : List ((Nat × Nat) × Nat) := [((9, 77), 172)]
def NQ_Int : List (Nat × Nat) := [(9, 77)]
theorem nq_Int : ∀ q ∈ NQ_Int, ab_nqok KT CL ab_gW "StreamTransport$Intake" q.1 q.2 := ab_nqb_ok (own := "StreamTransport$Intake") (l := NQp_Int) (by decide +kernel)
def NA_Int : List (Nat × Nat) := []
theorem na_Int : ∀ q ∈ NA_Int, (q.1 = 0 → ab_naok KT CL ab_gW .int q.2) ∧ (q.1 = 1 → ab_naok KT CL ab_gW .boolean q.2) ∧ (q.1 = 2 → ab_naok KT CL ab_gW .long q.2) := ab_nab_ok (by decide +kernel)
/-! StreamTransport$Intake.isWorthGiving(IIII)Z -/
def y_Int_isWorthGiving : MethodName := ⟨"StreamTransport$Intake", "isWorthGiving", "(IIII)Z"⟩
def t_Int_isWorthGiving (pc : Nat) : Option Ent :=
  bif Nat.blt pc 9 then
    (bif Nat.blt pc 5 then
      (bif Nat.blt pc 1 then
        (bif Nat.beq pc 0 then some (.iload_n 0, 0, 0, 0, 0) else none)
      else
        bif Nat.blt pc 2 then
          (bif Nat.beq pc 1 then some (.iload_n 1, 1, 0, 0, 0) else none)
        else
          bif Nat.beq pc 2 then some (.if_icmp .le (19), 21, 0, 0, 0) else none)
    else
      bif Nat.blt pc 7 then
        (bif Nat.blt pc 6 then
          (bif Nat.beq pc 5 then some (.iload_n 0, 0, 0, 0, 0) else none)
        else
          bif Nat.beq pc 6 then some (.iload_n 1, 1, 0, 0, 0) else none)
      else
        bif Nat.blt pc 8 then
          (bif Nat.beq pc 7 then some (.isub, 0, 0, 0, 0) else none)
        else
          bif Nat.beq pc 8 then some (.iload_n 2, 2, 0, 0, 0) else none)
  else
    bif Nat.blt pc 17 then
      (bif Nat.blt pc 13 then
        (bif Nat.blt pc 12 then
          (bif Nat.beq pc 9 then some (.if_icmp .ge (8), 17, 0, 0, 0) else none)
        else
          bif Nat.beq pc 12 then some (.iload_n 0, 0, 0, 0, 0) else none)
      else
        bif Nat.blt pc 14 then
          (bif Nat.beq pc 13 then some (.iload_n 3, 3, 0, 0, 0) else none)
        else
          bif Nat.beq pc 14 then some (.if_icmp .ne (7), 21, 0, 0, 0) else none)
    else
      bif Nat.blt pc 21 then
        (bif Nat.blt pc 18 then
          (bif Nat.beq pc 17 then some (.iconst 1, 0, 0, 0, 1) else none)
        else
          bif Nat.beq pc 18 then some (.goto 4, 22, 0, 0, 0) else none)
      else
        bif Nat.blt pc 22 then
          (bif Nat.beq pc 21 then some (.iconst 0, 0, 0, 0, 0) else none)
        else
          bif Nat.beq pc 22 then some (.ireturn, 0, 0, 1, 0) else none
def i_Int_isWorthGiving : Nat → Option Ent := ab_tab 23 t_Int_isWorthGiving
def h_Int_isWorthGiving (pc : Nat) : Nat × List Bool := bif Nat.beq pc 17 then (1, [false, false, false, false]) else (0, [])
def s_Int_isWorthGiving (pc : Nat) : List (Int32 × Nat) × Nat := ([], 0)
noncomputable def eV_Int_isWorthGiving : Nat → List AV → Mm → Option Mm := ab_ev []
noncomputable def eI_Int_isWorthGiving : Nat → List AV → Mm → Option (Int32 × Mm) := ab_ev []
noncomputable def b_Int_isWorthGiving_0 (f : Nat) (v0 : Int32) (v1 : Int32) (v2 : Int32) (v3 : Int32) (m : Mm) : Option Rs := ab_ex KT none s_Int_isWorthGiving eV_Int_isWorthGiving eI_Int_isWorthGiving i_Int_isWorthGiving h_Int_isWorthGiving f 0 [some (.inl v0), some (.inl v1), some (.inl v2), some (.inl v3)] [] m
noncomputable def b_Int_isWorthGiving_17 (f : Nat)  (m : Mm) : Option Rs := ab_ex KT none s_Int_isWorthGiving eV_Int_isWorthGiving eI_Int_isWorthGiving i_Int_isWorthGiving h_Int_isWorthGiving f 17 [none, none, none, none] [] m
set_option maxRecDepth 100000 in
set_option maxHeartbeats 4000000 in
theorem b_Int_isWorthGiving_0_eq (f : Nat) (v0 : Int32) (v1 : Int32) (v2 : Int32) (v3 : Int32) (m : Mm) : b_Int_isWorthGiving_0 (f + 1) v0 v1 v2 v3 m =
    if v0 ≤ v1 then
      (ab_bo (0 : Int32)).bind fun y1 => some (.inl (some (.inl y1), m))
    else
      if v2 ≤ (v0 - v1) then
        b_Int_isWorthGiving_17 f  m
      else
        if v0 = v3 then
          b_Int_isWorthGiving_17 f  m
        else
          (ab_bo (0 : Int32)).bind fun y2 => some (.inl (some (.inl y2), m)) := rfl
set_option maxRecDepth 100000 in
set_option maxHeartbeats 4000000 in
theorem b_Int_isWorthGiving_17_eq (f : Nat)  (m : Mm) : b_Int_isWorthGiving_17 (f + 1)  m =
    (ab_bo (1 : Int32)).bind fun y1 => some (.inl (some (.inl y1), m)) := rfl
noncomputable def r_Int_isWorthGiving : Int32 → Int32 → Int32 → Int32 → Mm → Option (Int32 × Mm) := ab_seal fun v0 v1 v2 v3 m => ab_rI (b_Int_isWorthGiving_0 50000 v0 v1 v2 v3 m)
theorem r_Int_isWorthGiving_eq (v0 : Int32) (v1 : Int32) (v2 : Int32) (v3 : Int32) (m : Mm) : r_Int_isWorthGiving v0 v1 v2 v3 m = ab_rI (b_Int_isWorthGiving_0 50000 v0 v1 v2 v3 m) := by
  unfold r_Int_isWorthGiving
  rw [ab_seal_eq]
noncomputable def c_Int_isWorthGiving : List AV → Mm → Option (Int32 × Mm) := fun av m => match av with
  | [.inl v0, .inl v1, .inl v2, .inl v3] => r_Int_isWorthGiving v0 v1 v2 v3 m
  | _ => none
theorem c_Int_isWorthGiving_inv {av : List AV} {m : Mm} {r : Int32 × Mm} (h : c_Int_isWorthGiving av m = some r) : ∃ (v0 : Int32) (v1 : Int32) (v2 : Int32) (v3 : Int32), av = [.inl v0, .inl v1, .inl v2, .inl v3] ∧ r_Int_isWorthGiving v0 v1 v2 v3 m = some r := by
  unfold c_Int_isWorthGiving at h
  split at h
  · rename_i v0 v1 v2 v3
    exact ⟨v0, v1, v2, v3, rfl, h⟩
  · cases h
def cs_Int_isWorthGiving : List Nat := []
set_option maxRecDepth 100000 in
theorem E_Int_isWorthGiving : ∀ (pc : Nat) (q : Ent), i_Int_isWorthGiving pc = some q → ab_E KT CL ab_gW "StreamTransport$Intake" "isWorthGiving" (some .boolean) prog_4_method_11_code s_Int_isWorthGiving 4 pc q.1 q.2.1 q.2.2.1 q.2.2.2.1 q.2.2.2.2 := fun pc q hq =>
  ab_Eb_ok lc_Int lj_Int fl_Int (fpn_Int "isWorthGiving") nw_Int na_Int nq_Int (ab_tab_all (t := t_Int_isWorthGiving) (chk := fun pc q => ab_Eb (some .boolean) prog_4_method_11_code s_Int_isWorthGiving 4 LC_Int LJ_Int FL_Int FPn_Int NW_Int NA_Int NQ_Int pc q.1 q.2.1 q.2.2.1 q.2.2.2.1 q.2.2.2.2) (by decide +kernel) hq)
set_option maxRecDepth 100000 in
theorem kp_Int_isWorthGiving {av : List AV} {m : Mm} {r : Int32 × Mm} (h : c_Int_isWorthGiving av m = some r) : ab_kp m r.2 := by
  obtain ⟨v0, v1, v2, v3, -, h⟩ := c_Int_isWorthGiving_inv h
  rw [r_Int_isWorthGiving_eq] at h
  have hV : ∀ a av m m', eV_Int_isWorthGiving a av m = some m' → ab_kp m m' := ab_ev_all (P := fun _ m r => ab_kp m r) [] (fun q hq => by cases hq)
  have hI : ∀ a av m q, eI_Int_isWorthGiving a av m = some q → ab_kp m q.2 := ab_ev_all (P := fun _ (m : Mm) (r : Int32 × Mm) => ab_kp m r.2) [] (fun q hq => by cases hq)
  exact ab_kprel (ρ := .inl (some (.inl r.1), r.2)) (ab_tab_isn (t := t_Int_isWorthGiving) (by decide +kernel)) hV hI (ab_rI_inv h)
set_option maxRecDepth 100000 in
theorem cl_Int_isWorthGiving (l : Launch) : ∀ (pc : Nat) (q : Ent), i_Int_isWorthGiving pc = some q → ab_inv q.1 = true → ab_CR l KT CL none ab_gW "StreamTransport$Intake" prog_4_method_11_code 4 0 0 eV_Int_isWorthGiving eI_Int_isWorthGiving pc q := by
  intro pc q hq hi
  have hm : pc ∈ cs_Int_isWorthGiving := ab_tab_cs (t := t_Int_isWorthGiving) (by decide +kernel) hq hi
  cases hm
theorem cw_Int_isWorthGiving : ab_cw y_Int_isWorthGiving prog_4_method_11_code 4 4 (some .boolean) := ⟨ab_gW_in 742 (by decide +kernel) rfl, ab_gW_in 66 (by decide +kernel) rfl, by decide +kernel, by decide +kernel, by decide +kernel⟩
theorem st_Int_isWorthGiving : Cond.static y_Int_isWorthGiving ∈ ab_gW := ab_gW_in 741 (by decide +kernel) rfl
set_option maxRecDepth 100000 in
theorem cm_Int_isWorthGiving (l : Launch) {av : List AV} {m : Mm} {r : Int32 × Mm} (h0 : c_Int_isWorthGiving av m = some r) : av.length = 4 ∧ ab_nos av ∧ ab_Met l KT CL y_Int_isWorthGiving (Cond.code y_Int_isWorthGiving prog_4_method_11_code 4 (some .boolean) :: ab_gW) 0 0 none av m (some (.inl r.1)) r.2 := by
  obtain ⟨v0, v1, v2, v3, hav, h⟩ := c_Int_isWorthGiving_inv h0
  rw [r_Int_isWorthGiving_eq] at h
  have hmo : ab_mo m r.2 := ab_kp_mo (kp_Int_isWorthGiving h0)
  subst hav
  exact ⟨rfl, (by intro v hv q e; subst e; simp at hv), ab_met (by decide +kernel) KT_0 KT_nd KT_k3 E_Int_isWorthGiving (cl_Int_isWorthGiving l) hmo (Nat.le_of_ble_eq_true rfl) (ab_rI_inv h) (fun v hv => by cases hv; exact ⟨_, rfl⟩)⟩
/-! StreamTransport$Intake.limitFor(LStreamTransport$Incoming;)I -/
def y_Int_limitFor : MethodName := ⟨"StreamTransport$Intake", "limitFor", "(LStreamTransport$Incoming;)I"⟩
def t_Int_limitFor (pc : Nat) : Option Ent :=
  bif Nat.blt pc 8 then
    (bif Nat.blt pc 4 then
      (bif Nat.blt pc 1 then
        (bif Nat.beq pc 0 then some (.aload_n 1, 1, 0, 0, 0) else none)
      else
        bif Nat.beq pc 1 then some (.getfield 30, 1, 1, 0, 0) else none)
    else
      bif Nat.blt pc 5 then
        (bif Nat.beq pc 4 then some (.aload_n 0, 0, 0, 0, 0) else none)
      else
        bif Nat.beq pc 5 then some (.getfield 17, 2, 1, 0, 0) else none)
  else
    bif Nat.blt pc 11 then
      (bif Nat.blt pc 9 then
        (bif Nat.beq pc 8 then some (.iadd, 0, 0, 0, 0) else none)
      else
        bif Nat.beq pc 9 then some (.bipush 64, 0, 0, 0, 64) else none)
    else
      bif Nat.blt pc 14 then
        (bif Nat.beq pc 11 then some (.invokestatic 88, 2, 2, 1, 0) else none)
      else
        bif Nat.beq pc 14 then some (.ireturn, 0, 0, 0, 0) else none
def i_Int_limitFor : Nat → Option Ent := ab_tab 15 t_Int_limitFor
def h_Int_limitFor (pc : Nat) : Nat × List Bool := (0, [])
def s_Int_limitFor (pc : Nat) : List (Int32 × Nat) × Nat := ([], 0)
noncomputable def eV_Int_limitFor : Nat → List AV → Mm → Option Mm := ab_ev []
noncomputable def eI_Int_limitFor : Nat → List AV → Mm → Option (Int32 × Mm) := ab_ev [(2, c_Math_min)]
noncomputable def b_Int_limitFor_0 (f : Nat) (v0 : Nat) (v1 : Nat) (m : Mm) : Option Rs := ab_ex KT none s_Int_limitFor eV_Int_limitFor eI_Int_limitFor i_Int_limitFor h_Int_limitFor f 0 [some (.inr (.inr (13, some v0))), some (.inr (.inr (15, some v1)))] [] m
set_option maxRecDepth 100000 in
set_option maxHeartbeats 4000000 in
theorem b_Int_limitFor_0_eq (f : Nat) (v0 : Nat) (v1 : Nat) (m : Mm) : b_Int_limitFor_0 (f + 1) v0 v1 m =
    (r_Math_min ((m.1 47 v1 0) + (m.1 41 v0 0)) (64 : Int32) m).bind fun z1 =>
    some (.inl (some (.inl z1.1), z1.2)) := rfl
noncomputable def r_Int_limitFor : Nat → Nat → Mm → Option (Int32 × Mm) := ab_seal fun v0 v1 m => ab_rI (b_Int_limitFor_0 50000 v0 v1 m)
theorem r_Int_limitFor_eq (v0 : Nat) (v1 : Nat) (m : Mm) : r_Int_limitFor v0 v1 m = ab_rI (b_Int_limitFor_0 50000 v0 v1 m) := by
  unfold r_Int_limitFor
  rw [ab_seal_eq]
noncomputable def c_Int_limitFor : List AV → Mm → Option (Int32 × Mm) := fun av m => match av with
  | [.inr (.inr (kv0, ov0)), .inr (.inr (kv1, ov1))] => if kv0 = 13 then (if kv1 = 15 then (ov0.bind fun v0 => ov1.bind fun v1 => r_Int_limitFor v0 v1 m) else none) else none
  | _ => none
theorem c_Int_limitFor_inv {av : List AV} {m : Mm} {r : Int32 × Mm} (h : c_Int_limitFor av m = some r) : ∃ (v0 : Nat) (v1 : Nat), av = [.inr (.inr (13, some v0)), .inr (.inr (15, some v1))] ∧ r_Int_limitFor v0 v1 m = some r := by
  unfold c_Int_limitFor at h
  split at h
  · rename_i kv0 ov0 kv1 ov1
    by_cases hkv0 : kv0 = 13
    case neg => rw [if_neg hkv0] at h; cases h
    rw [if_pos hkv0] at h
    subst hkv0
    by_cases hkv1 : kv1 = 15
    case neg => rw [if_neg hkv1] at h; cases h
    rw [if_pos hkv1] at h
    subst hkv1
    obtain ⟨v0, hev0, h⟩ := Option.bind_eq_some_iff.mp h
    obtain ⟨v1, hev1, h⟩ := Option.bind_eq_some_iff.mp h
    subst hev0
    subst hev1
    exact ⟨v0, v1, rfl, h⟩
  · cases h
def cs_Int_limitFor : List Nat := [11]
set_option maxRecDepth 100000 in
theorem E_Int_limitFor : ∀ (pc : Nat) (q : Ent), i_Int_limitFor pc = some q → ab_E KT CL ab_gW "StreamTransport$Intake" "limitFor" (some .int) prog_4_method_7_code s_Int_limitFor 2 pc q.1 q.2.1 q.2.2.1 q.2.2.2.1 q.2.2.2.2 := fun pc q hq =>
  ab_Eb_ok lc_Int lj_Int fl_Int (fpn_Int "limitFor") nw_Int na_Int nq_Int (ab_tab_all (t := t_Int_limitFor) (chk := fun pc q => ab_Eb (some .int) prog_4_method_7_code s_Int_limitFor 2 LC_Int LJ_Int FL_Int FPn_Int NW_Int NA_Int NQ_Int pc q.1 q.2.1 q.2.2.1 q.2.2.2.1 q.2.2.2.2) (by decide +kernel) hq)
set_option maxRecDepth 100000 in
theorem kp_Int_limitFor {av : List AV} {m : Mm} {r : Int32 × Mm} (h : c_Int_limitFor av m = some r) : ab_kp m r.2 := by
  obtain ⟨v0, v1, -, h⟩ := c_Int_limitFor_inv h
  rw [r_Int_limitFor_eq] at h
  have hV : ∀ a av m m', eV_Int_limitFor a av m = some m' → ab_kp m m' := ab_ev_all (P := fun _ m r => ab_kp m r) [] (fun q hq => by cases hq)
  have hI : ∀ a av m q, eI_Int_limitFor a av m = some q → ab_kp m q.2 := ab_ev_all (P := fun _ (m : Mm) (r : Int32 × Mm) => ab_kp m r.2) [(2, c_Math_min)] (List.forall_mem_cons.mpr ⟨fun av m r h => kp_Math_min h, fun q hq => by cases hq⟩)
  exact ab_kprel (ρ := .inl (some (.inl r.1), r.2)) (ab_tab_isn (t := t_Int_limitFor) (by decide +kernel)) hV hI (ab_rI_inv h)
set_option maxRecDepth 100000 in
theorem cl_Int_limitFor (l : Launch) : ∀ (pc : Nat) (q : Ent), i_Int_limitFor pc = some q → ab_inv q.1 = true → ab_CR l KT CL none ab_gW "StreamTransport$Intake" prog_4_method_7_code 2 1 21 eV_Int_limitFor eI_Int_limitFor pc q := by
  intro pc q hq hi
  have hm : pc ∈ cs_Int_limitFor := ab_tab_cs (t := t_Int_limitFor) (by decide +kernel) hq hi
  simp only [cs_Int_limitFor, List.mem_cons, List.not_mem_nil, or_false] at hm
  rcases hm with rfl
  · cases (Option.some.inj hq : ((.invokestatic 88, 2, 2, 1, 0) : Ent) = q)
    exact ab_crS (by decide +kernel) cw_Math_min (ab_gW_in 503 (by decide +kernel) rfl) st_Math_min (by decide) (fun av m m' h => by cases h) (fun av m r h => cm_Math_min l h) KT_nd
theorem cw_Int_limitFor : ab_cw y_Int_limitFor prog_4_method_7_code 2 1 (some .int) := ⟨ab_gW_in 524 (by decide +kernel) rfl, ab_gW_in 66 (by decide +kernel) rfl, by decide +kernel, by decide +kernel, by decide +kernel⟩
theorem is_Int_limitFor : Cond.instanceMethod y_Int_limitFor ∈ ab_gW := ab_gW_in 523 (by decide +kernel) rfl
theorem sl_Int_limitFor : Cond.selects "StreamTransport$Intake" y_Int_limitFor y_Int_limitFor ∈ ab_gW := ab_gW_in 5 (by decide +kernel) rfl
set_option maxRecDepth 100000 in
theorem cm_Int_limitFor (l : Launch) {av : List AV} {m : Mm} {r : Int32 × Mm} (h0 : c_Int_limitFor av m = some r) : ∃ (k q : Nat) (av' : List AV) (ci : Nat) (fs : List (Nat × Nat × Nat × Nat)) (z : vw_C), av = .inr (.inr (k, some q)) :: av' ∧ av'.length = 1 ∧ k ≠ 0 ∧ KT[k]? = some (.inl (ci, fs)) ∧ CL[ci]? = some z ∧ z.1 = "StreamTransport$Intake" ∧ ab_nos av' ∧ ab_Met l KT CL y_Int_limitFor (Cond.code y_Int_limitFor prog_4_method_7_code 2 (some .int) :: ab_gW) 1 21 none av m (some (.inl r.1)) r.2 := by
  obtain ⟨v0, v1, hav, h⟩ := c_Int_limitFor_inv h0
  rw [r_Int_limitFor_eq] at h
  have hmo : ab_mo m r.2 := ab_kp_mo (kp_Int_limitFor h0)
  subst hav
  exact ⟨_, _, _, _, _, _, rfl, rfl, by decide, rfl, rfl, rfl, (by intro v hv q e; subst e; simp at hv), ab_met (by decide +kernel) KT_0 KT_nd KT_k3 E_Int_limitFor (cl_Int_limitFor l) hmo (Nat.le_of_ble_eq_true rfl) (ab_rI_inv h) (fun v hv => by cases hv; exact ⟨_, rfl⟩)⟩
/-! StreamTransport$Intake.limitForAll()I -/
def y_Int_limitForAll : MethodName := ⟨"StreamTransport$Intake", "limitForAll", "()I"⟩
def t_Int_limitForAll (pc : Nat) : Option Ent :=
  bif Nat.blt pc 16 then
    (bif Nat.blt pc 6 then
      (bif Nat.blt pc 3 then
        (bif Nat.blt pc 1 then
          (bif Nat.beq pc 0 then some (.iconst 0, 0, 0, 0, 0) else none)
        else
          bif Nat.blt pc 2 then
            (bif Nat.beq pc 1 then some (.istore_n 1, 1, 0, 0, 0) else none)
          else
            bif Nat.beq pc 2 then some (.iconst 0, 0, 0, 0, 0) else none)
      else
        bif Nat.blt pc 4 then
          (bif Nat.beq pc 3 then some (.istore_n 2, 2, 0, 0, 0) else none)
        else
          bif Nat.blt pc 5 then
            (bif Nat.beq pc 4 then some (.iload_n 2, 2, 0, 0, 0) else none)
          else
            bif Nat.beq pc 5 then some (.iconst 4, 0, 0, 0, 4) else none)
    else
      bif Nat.blt pc 11 then
        (bif Nat.blt pc 9 then
          (bif Nat.beq pc 6 then some (.if_icmp .ge (21), 27, 0, 0, 0) else none)
        else
          bif Nat.blt pc 10 then
            (bif Nat.beq pc 9 then some (.iload_n 1, 1, 0, 0, 0) else none)
          else
            bif Nat.beq pc 10 then some (.aload_n 0, 0, 0, 0, 0) else none)
      else
        bif Nat.blt pc 14 then
          (bif Nat.beq pc 11 then some (.getfield 11, 2, 0, 1, 0) else none)
        else
          bif Nat.blt pc 15 then
            (bif Nat.beq pc 14 then some (.iload_n 2, 2, 0, 0, 0) else none)
          else
            bif Nat.beq pc 15 then some (.aaload, 0, 0, 0, 0) else none)
  else
    bif Nat.blt pc 28 then
      (bif Nat.blt pc 21 then
        (bif Nat.blt pc 19 then
          (bif Nat.beq pc 16 then some (.invokevirtual 91, 49, 1, 1, 0) else none)
        else
          bif Nat.blt pc 20 then
            (bif Nat.beq pc 19 then some (.iadd, 0, 0, 0, 0) else none)
          else
            bif Nat.beq pc 20 then some (.istore_n 1, 1, 0, 0, 0) else none)
      else
        bif Nat.blt pc 24 then
          (bif Nat.beq pc 21 then some (.iinc 2 1, 2, 0, 0, 1) else none)
        else
          bif Nat.blt pc 27 then
            (bif Nat.beq pc 24 then some (.goto (-20), 4, 0, 0, 0) else none)
          else
            bif Nat.beq pc 27 then some (.iload_n 1, 1, 0, 0, 0) else none)
    else
      bif Nat.blt pc 33 then
        (bif Nat.blt pc 29 then
          (bif Nat.beq pc 28 then some (.aload_n 0, 0, 0, 0, 0) else none)
        else
          bif Nat.blt pc 32 then
            (bif Nat.beq pc 29 then some (.getfield 21, 2, 2, 0, 0) else none)
          else
            bif Nat.beq pc 32 then some (.iadd, 0, 0, 0, 0) else none)
      else
        bif Nat.blt pc 36 then
          (bif Nat.beq pc 33 then some (.sipush 256, 0, 0, 0, 256) else none)
        else
          bif Nat.blt pc 39 then
            (bif Nat.beq pc 36 then some (.invokestatic 88, 2, 2, 1, 0) else none)
          else
            bif Nat.beq pc 39 then some (.ireturn, 0, 0, 0, 0) else none
def i_Int_limitForAll : Nat → Option Ent := ab_tab 40 t_Int_limitForAll
def h_Int_limitForAll (pc : Nat) : Nat × List Bool := bif Nat.beq pc 4 then (1, [true, true, true]) else (0, [])
def s_Int_limitForAll (pc : Nat) : List (Int32 × Nat) × Nat := ([], 0)
noncomputable def eV_Int_limitForAll : Nat → List AV → Mm → Option Mm := ab_ev []
noncomputable def eI_Int_limitForAll : Nat → List AV → Mm → Option (Int32 × Mm) := ab_ev [(49, c_Inc_spent), (2, c_Math_min)]
noncomputable def b_Int_limitForAll_0 (f : Nat) (v0 : Nat) (m : Mm) : Option Rs := ab_ex KT none s_Int_limitForAll eV_Int_limitForAll eI_Int_limitForAll i_Int_limitForAll h_Int_limitForAll f 0 [some (.inr (.inr (13, some v0))), none, none] [] m
noncomputable def b_Int_limitForAll_4 (f : Nat) (v0 : Nat) (v1 : Int32) (v2 : Int32) (m : Mm) : Option Rs := ab_ex KT none s_Int_limitForAll eV_Int_limitForAll eI_Int_limitForAll i_Int_limitForAll h_Int_limitForAll f 4 [some (.inr (.inr (13, some v0))), some (.inl v1), some (.inl v2)] [] m
set_option maxRecDepth 100000 in
set_option maxHeartbeats 4000000 in
theorem b_Int_limitForAll_0_eq (f : Nat) (v0 : Nat) (m : Mm) : b_Int_limitForAll_0 (f + 1) v0 m =
    b_Int_limitForAll_4 f v0 (0 : Int32) (0 : Int32) m := rfl
set_option maxRecDepth 100000 in
set_option maxHeartbeats 4000000 in
theorem b_Int_limitForAll_4_eq (f : Nat) (v0 : Nat) (v1 : Int32) (v2 : Int32) (m : Mm) : b_Int_limitForAll_4 (f + 1) v0 v1 v2 m =
    if (4 : Int32) ≤ v2 then
      (r_Math_min (v1 + (m.1 42 v0 0)) (256 : Int32) m).bind fun z1 =>
      some (.inl (some (.inl z1.1), z1.2))
    else
      (ab_ix v2 4).bind fun i2 =>
      (r_Inc_spent ((v0 + 1) + 1 + 2 * i2) m).bind fun z3 =>
      ab_let ((v1 + z3.1)) fun x4 =>
      ab_let (v2 + (1 : Int32)) fun x5 =>
      b_Int_limitForAll_4 f v0 x4 x5 z3.2 := rfl
noncomputable def r_Int_limitForAll : Nat → Mm → Option (Int32 × Mm) := ab_seal fun v0 m => ab_rI (b_Int_limitForAll_0 50000 v0 m)
theorem r_Int_limitForAll_eq (v0 : Nat) (m : Mm) : r_Int_limitForAll v0 m = ab_rI (b_Int_limitForAll_0 50000 v0 m) := by
  unfold r_Int_limitForAll
  rw [ab_seal_eq]
noncomputable def c_Int_limitForAll : List AV → Mm → Option (Int32 × Mm) := fun av m => match av with
  | [.inr (.inr (kv0, ov0))] => if kv0 = 13 then (ov0.bind fun v0 => r_Int_limitForAll v0 m) else none
  | _ => none
theorem c_Int_limitForAll_inv {av : List AV} {m : Mm} {r : Int32 × Mm} (h : c_Int_limitForAll av m = some r) : ∃ (v0 : Nat), av = [.inr (.inr (13, some v0))] ∧ r_Int_limitForAll v0 m = some r := by
  unfold c_Int_limitForAll at h
  split at h
  · rename_i kv0 ov0
    by_cases hkv0 : kv0 = 13
    case neg => rw [if_neg hkv0] at h; cases h
    rw [if_pos hkv0] at h
    subst hkv0
    obtain ⟨v0, hev0, h⟩ := Option.bind_eq_some_iff.mp h
    subst hev0
    exact ⟨v0, rfl, h⟩
  · cases h
def cs_Int_limitForAll : List Nat := [16, 36]
set_option maxRecDepth 100000 in
theorem E_Int_limitForAll : ∀ (pc : Nat) (q : Ent), i_Int_limitForAll pc = some q → ab_E KT CL ab_gW "StreamTransport$Intake" "limitForAll" (some .int) prog_4_method_8_code s_Int_limitForAll 3 pc q.1 q.2.1 q.2.2.1 q.2.2.2.1 q.2.2.2.2 := fun pc q hq =>
  ab_Eb_ok lc_Int lj_Int fl_Int (fpn_Int "limitForAll") nw_Int na_Int nq_Int (ab_tab_all (t := t_Int_limitForAll) (chk := fun pc q => ab_Eb (some .int) prog_4_method_8_code s_Int_limitForAll 3 LC_Int LJ_Int FL_Int FPn_Int NW_Int NA_Int NQ_Int pc q.1 q.2.1 q.2.2.1 q.2.2.2.1 q.2.2.2.2) (by decide +kernel) hq)
set_option maxRecDepth 100000 in
theorem kp_Int_limitForAll {av : List AV} {m : Mm} {r : Int32 × Mm} (h : c_Int_limitForAll av m = some r) : ab_kp m r.2 := by
  obtain ⟨v0, -, h⟩ := c_Int_limitForAll_inv h
  rw [r_Int_limitForAll_eq] at h
  have hV : ∀ a av m m', eV_Int_limitForAll a av m = some m' → ab_kp m m' := ab_ev_all (P := fun _ m r => ab_kp m r) [] (fun q hq => by cases hq)
  have hI : ∀ a av m q, eI_Int_limitForAll a av m = some q → ab_kp m q.2 := ab_ev_all (P := fun _ (m : Mm) (r : Int32 × Mm) => ab_kp m r.2) [(49, c_Inc_spent), (2, c_Math_min)] (List.forall_mem_cons.mpr ⟨fun av m r h => kp_Inc_spent h, List.forall_mem_cons.mpr ⟨fun av m r h => kp_Math_min h, fun q hq => by cases hq⟩⟩)
  exact ab_kprel (ρ := .inl (some (.inl r.1), r.2)) (ab_tab_isn (t := t_Int_limitForAll) (by decide +kernel)) hV hI (ab_rI_inv h)
set_option maxRecDepth 100000 in
theorem cl_Int_limitForAll (l : Launch) : ∀ (pc : Nat) (q : Ent), i_Int_limitForAll pc = some q → ab_inv q.1 = true → ab_CR l KT CL none ab_gW "StreamTransport$Intake" prog_4_method_8_code 3 1 21 eV_Int_limitForAll eI_Int_limitForAll pc q := by
  intro pc q hq hi
  have hm : pc ∈ cs_Int_limitForAll := ab_tab_cs (t := t_Int_limitForAll) (by decide +kernel) hq hi
  simp only [cs_Int_limitForAll, List.mem_cons, List.not_mem_nil, or_false] at hm
  rcases hm with rfl | rfl
  · cases (Option.some.inj hq : ((.invokevirtual 91, 49, 1, 1, 0) : Ent) = q)
    exact ab_crV (C := "StreamTransport$Incoming") (by decide +kernel) cw_Inc_spent (ab_gW_in 499 (by decide +kernel) rfl) is_Inc_spent sl_Inc_spent (by decide) (fun av m m' h => by cases h) (fun av m r h => cm_Inc_spent l h) KT_nd
  · cases (Option.some.inj hq : ((.invokestatic 88, 2, 2, 1, 0) : Ent) = q)
    exact ab_crS (by decide +kernel) cw_Math_min (ab_gW_in 503 (by decide +kernel) rfl) st_Math_min (by decide) (fun av m m' h => by cases h) (fun av m r h => cm_Math_min l h) KT_nd
theorem cw_Int_limitForAll : ab_cw y_Int_limitForAll prog_4_method_8_code 3 0 (some .int) := ⟨ab_gW_in 498 (by decide +kernel) rfl, ab_gW_in 66 (by decide +kernel) rfl, by decide +kernel, by decide +kernel, by decide +kernel⟩
theorem is_Int_limitForAll : Cond.instanceMethod y_Int_limitForAll ∈ ab_gW := ab_gW_in 497 (by decide +kernel) rfl
theorem sl_Int_limitForAll : Cond.selects "StreamTransport$Intake" y_Int_limitForAll y_Int_limitForAll ∈ ab_gW := ab_gW_in 3 (by decide +kernel) rfl
set_option maxRecDepth 100000 in
theorem cm_Int_limitForAll (l : Launch) {av : List AV} {m : Mm} {r : Int32 × Mm} (h0 : c_Int_limitForAll av m = some r) : ∃ (k q : Nat) (av' : List AV) (ci : Nat) (fs : List (Nat × Nat × Nat × Nat)) (z : vw_C), av = .inr (.inr (k, some q)) :: av' ∧ av'.length = 0 ∧ k ≠ 0 ∧ KT[k]? = some (.inl (ci, fs)) ∧ CL[ci]? = some z ∧ z.1 = "StreamTransport$Intake" ∧ ab_nos av' ∧ ab_Met l KT CL y_Int_limitForAll (Cond.code y_Int_limitForAll prog_4_method_8_code 3 (some .int) :: ab_gW) 1 21 none av m (some (.inl r.1)) r.2 := by
  obtain ⟨v0, hav, h⟩ := c_Int_limitForAll_inv h0
  rw [r_Int_limitForAll_eq] at h
  have hmo : ab_mo m r.2 := ab_kp_mo (kp_Int_limitForAll h0)
  subst hav
  exact ⟨_, _, _, _, _, _, rfl, rfl, by decide, rfl, rfl, rfl, (by intro v hv q e; subst e; simp at hv), ab_met (by decide +kernel) KT_0 KT_nd KT_k3 E_Int_limitForAll (cl_Int_limitForAll l) hmo (Nat.le_of_ble_eq_true rfl) (ab_rI_inv h) (fun v hv => by cases hv; exact ⟨_, rfl⟩)⟩
/-! StreamTransport$Intake.lookAtLimit(LStreamTransport$Incoming;)V -/
def y_Int_lookAtLimit : MethodName := ⟨"StreamTransport$Intake", "lookAtLimit", "(LStreamTransport$Incoming;)V"⟩
def t_Int_lookAtLimit (pc : Nat) : Option Ent :=
  bif Nat.blt pc 14 then
    (bif Nat.blt pc 6 then
      (bif Nat.blt pc 2 then
        (bif Nat.blt pc 1 then
          (bif Nat.beq pc 0 then some (.aload_n 0, 0, 0, 0, 0) else none)
        else
          bif Nat.beq pc 1 then some (.aload_n 1, 1, 0, 0, 0) else none)
      else
        bif Nat.blt pc 5 then
          (bif Nat.beq pc 2 then some (.invokevirtual 95, 54, 2, 1, 0) else none)
        else
          bif Nat.beq pc 5 then some (.aload_n 1, 1, 0, 0, 0) else none)
    else
      bif Nat.blt pc 10 then
        (bif Nat.blt pc 9 then
          (bif Nat.beq pc 6 then some (.getfield 69, 1, 4, 0, 0) else none)
        else
          bif Nat.beq pc 9 then some (.aload_n 0, 0, 0, 0, 0) else none)
      else
        bif Nat.blt pc 13 then
          (bif Nat.beq pc 10 then some (.getfield 17, 2, 1, 0, 0) else none)
        else
          bif Nat.beq pc 13 then some (.iconst 2, 0, 0, 0, 2) else none)
  else
    bif Nat.blt pc 23 then
      (bif Nat.blt pc 17 then
        (bif Nat.blt pc 15 then
          (bif Nat.beq pc 14 then some (.idiv, 0, 0, 0, 0) else none)
        else
          bif Nat.beq pc 15 then some (.bipush 64, 0, 0, 0, 64) else none)
      else
        bif Nat.blt pc 20 then
          (bif Nat.beq pc 17 then some (.invokestatic 99, 53, 4, 1, 0) else none)
        else
          bif Nat.beq pc 20 then some (.ifCond .eq (8), 28, 0, 0, 0) else none)
    else
      bif Nat.blt pc 25 then
        (bif Nat.blt pc 24 then
          (bif Nat.beq pc 23 then some (.aload_n 1, 1, 0, 0, 0) else none)
        else
          bif Nat.beq pc 24 then some (.iconst 1, 0, 0, 0, 1) else none)
      else
        bif Nat.blt pc 28 then
          (bif Nat.beq pc 25 then some (.putfield 103, 1, 6, 0, 0) else none)
        else
          bif Nat.beq pc 28 then some (.return_, 0, 0, 0, 0) else none
def i_Int_lookAtLimit : Nat → Option Ent := ab_tab 29 t_Int_lookAtLimit
def h_Int_lookAtLimit (pc : Nat) : Nat × List Bool := (0, [])
def s_Int_lookAtLimit (pc : Nat) : List (Int32 × Nat) × Nat := ([], 0)
noncomputable def eV_Int_lookAtLimit : Nat → List AV → Mm → Option Mm := ab_ev []
noncomputable def eI_Int_lookAtLimit : Nat → List AV → Mm → Option (Int32 × Mm) := ab_ev [(54, c_Int_limitFor), (53, c_Int_isWorthGiving)]
noncomputable def b_Int_lookAtLimit_0 (f : Nat) (v0 : Nat) (v1 : Nat) (m : Mm) : Option Rs := ab_ex KT none s_Int_lookAtLimit eV_Int_lookAtLimit eI_Int_lookAtLimit i_Int_lookAtLimit h_Int_lookAtLimit f 0 [some (.inr (.inr (13, some v0))), some (.inr (.inr (15, some v1)))] [] m
set_option maxRecDepth 100000 in
set_option maxHeartbeats 4000000 in
theorem b_Int_lookAtLimit_0_eq (f : Nat) (v0 : Nat) (v1 : Nat) (m : Mm) : b_Int_lookAtLimit_0 (f + 1) v0 v1 m =
    (r_Int_limitFor v0 v1 m).bind fun z1 =>
    if (2 : Int32) = 0 then none else
    (r_Int_isWorthGiving z1.1 (z1.2.1 50 v1 0) ((z1.2.1 41 v0 0) / (2 : Int32)) (64 : Int32) z1.2).bind fun z2 =>
    if z2.1 = 0 then
      some (.inl (none, z2.2))
    else
      (ab_bo (1 : Int32)).bind fun y4 =>
      ab_let (ab_uI z2.2 52 v1 0 y4) fun m3 =>
      some (.inl (none, m3)) := rfl
noncomputable def r_Int_lookAtLimit : Nat → Nat → Mm → Option Mm := ab_seal fun v0 v1 m => ab_rV (b_Int_lookAtLimit_0 50000 v0 v1 m)
theorem r_Int_lookAtLimit_eq (v0 : Nat) (v1 : Nat) (m : Mm) : r_Int_lookAtLimit v0 v1 m = ab_rV (b_Int_lookAtLimit_0 50000 v0 v1 m) := by
  unfold r_Int_lookAtLimit
  rw [ab_seal_eq]
noncomputable def c_Int_lookAtLimit : List AV → Mm → Option Mm := fun av m => match av with
  | [.inr (.inr (kv0, ov0)), .inr (.inr (kv1, ov1))] => if kv0 = 13 then (if kv1 = 15 then (ov0.bind fun v0 => ov1.bind fun v1 => r_Int_lookAtLimit v0 v1 m) else none) else none
  | _ => none
theorem c_Int_lookAtLimit_inv {av : List AV} {m : Mm} {r : Mm} (h : c_Int_lookAtLimit av m = some r) : ∃ (v0 : Nat) (v1 : Nat), av = [.inr (.inr (13, some v0)), .inr (.inr (15, some v1))] ∧ r_Int_lookAtLimit v0 v1 m = some r := by
  unfold c_Int_lookAtLimit at h
  split at h
  · rename_i kv0 ov0 kv1 ov1
    by_cases hkv0 : kv0 = 13
    case neg => rw [if_neg hkv0] at h; cases h
    rw [if_pos hkv0] at h
    subst hkv0
    by_cases hkv1 : kv1 = 15
    case neg => rw [if_neg hkv1] at h; cases h
    rw [if_pos hkv1] at h
    subst hkv1
    obtain ⟨v0, hev0, h⟩ := Option.bind_eq_some_iff.mp h
    obtain ⟨v1, hev1, h⟩ := Option.bind_eq_some_iff.mp h
    subst hev0
    subst hev1
    exact ⟨v0, v1, rfl, h⟩
  · cases h
def cs_Int_lookAtLimit : List Nat := [2, 17]
set_option maxRecDepth 100000 in
theorem E_Int_lookAtLimit : ∀ (pc : Nat) (q : Ent), i_Int_lookAtLimit pc = some q → ab_E KT CL ab_gW "StreamTransport$Intake" "lookAtLimit" none prog_4_method_9_code s_Int_lookAtLimit 2 pc q.1 q.2.1 q.2.2.1 q.2.2.2.1 q.2.2.2.2 := fun pc q hq =>
  ab_Eb_ok lc_Int lj_Int fl_Int (fpn_Int "lookAtLimit") nw_Int na_Int nq_Int (ab_tab_all (t := t_Int_lookAtLimit) (chk := fun pc q => ab_Eb none prog_4_method_9_code s_Int_lookAtLimit 2 LC_Int LJ_Int FL_Int FPn_Int NW_Int NA_Int NQ_Int pc q.1 q.2.1 q.2.2.1 q.2.2.2.1 q.2.2.2.2) (by decide +kernel) hq)
set_option maxRecDepth 100000 in
theorem kp_Int_lookAtLimit {av : List AV} {m : Mm} {r : Mm} (h : c_Int_lookAtLimit av m = some r) : ab_kp m r := by
  obtain ⟨v0, v1, -, h⟩ := c_Int_lookAtLimit_inv h
  rw [r_Int_lookAtLimit_eq] at h
  have hV : ∀ a av m m', eV_Int_lookAtLimit a av m = some m' → ab_kp m m' := ab_ev_all (P := fun _ m r => ab_kp m r) [] (fun q hq => by cases hq)
  have hI : ∀ a av m q, eI_Int_lookAtLimit a av m = some q → ab_kp m q.2 := ab_ev_all (P := fun _ (m : Mm) (r : Int32 × Mm) => ab_kp m r.2) [(54, c_Int_limitFor), (53, c_Int_isWorthGiving)] (List.forall_mem_cons.mpr ⟨fun av m r h => kp_Int_limitFor h, List.forall_mem_cons.mpr ⟨fun av m r h => kp_Int_isWorthGiving h, fun q hq => by cases hq⟩⟩)
  exact ab_kprel (ρ := .inl (none, r)) (ab_tab_isn (t := t_Int_lookAtLimit) (by decide +kernel)) hV hI (ab_rV_inv h)
set_option maxRecDepth 100000 in
theorem cl_Int_lookAtLimit (l : Launch) : ∀ (pc : Nat) (q : Ent), i_Int_lookAtLimit pc = some q → ab_inv q.1 = true → ab_CR l KT CL none ab_gW "StreamTransport$Intake" prog_4_method_9_code 2 2 42 eV_Int_lookAtLimit eI_Int_lookAtLimit pc q := by
  intro pc q hq hi
  have hm : pc ∈ cs_Int_lookAtLimit := ab_tab_cs (t := t_Int_lookAtLimit) (by decide +kernel) hq hi
  simp only [cs_Int_lookAtLimit, List.mem_cons, List.not_mem_nil, or_false] at hm
  rcases hm with rfl | rfl
  · cases (Option.some.inj hq : ((.invokevirtual 95, 54, 2, 1, 0) : Ent) = q)
    exact ab_crV (C := "StreamTransport$Intake") (by decide +kernel) cw_Int_limitFor (ab_gW_in 521 (by decide +kernel) rfl) is_Int_limitFor sl_Int_limitFor (by decide) (fun av m m' h => by cases h) (fun av m r h => cm_Int_limitFor l h) KT_nd
  · cases (Option.some.inj hq : ((.invokestatic 99, 53, 4, 1, 0) : Ent) = q)
    exact ab_crS (by decide +kernel) cw_Int_isWorthGiving (ab_gW_in 740 (by decide +kernel) rfl) st_Int_isWorthGiving (by decide) (fun av m m' h => by cases h) (fun av m r h => cm_Int_isWorthGiving l h) KT_nd
theorem cw_Int_lookAtLimit : ab_cw y_Int_lookAtLimit prog_4_method_9_code 2 1 none := ⟨ab_gW_in 979 (by decide +kernel) rfl, ab_gW_in 66 (by decide +kernel) rfl, by decide +kernel, by decide +kernel, by decide +kernel⟩
theorem is_Int_lookAtLimit : Cond.instanceMethod y_Int_lookAtLimit ∈ ab_gW := ab_gW_in 978 (by decide +kernel) rfl
theorem sl_Int_lookAtLimit : Cond.selects "StreamTransport$Intake" y_Int_lookAtLimit y_Int_lookAtLimit ∈ ab_gW := ab_gW_in 30 (by decide +kernel) rfl
set_option maxRecDepth 100000 in
theorem cm_Int_lookAtLimit (l : Launch) {av : List AV} {m : Mm} {r : Mm} (h0 : c_Int_lookAtLimit av m = some r) : ∃ (k q : Nat) (av' : List AV) (ci : Nat) (fs : List (Nat × Nat × Nat × Nat)) (z : vw_C), av = .inr (.inr (k, some q)) :: av' ∧ av'.length = 1 ∧ k ≠ 0 ∧ KT[k]? = some (.inl (ci, fs)) ∧ CL[ci]? = some z ∧ z.1 = "StreamTransport$Intake" ∧ ab_nos av' ∧ ab_Met l KT CL y_Int_lookAtLimit (Cond.code y_Int_lookAtLimit prog_4_method_9_code 2 none :: ab_gW) 2 42 none av m none r := by
  obtain ⟨v0, v1, hav, h⟩ := c_Int_lookAtLimit_inv h0
  rw [r_Int_lookAtLimit_eq] at h
  have hmo : ab_mo m r := ab_kp_mo (kp_Int_lookAtLimit h0)
  subst hav
  exact ⟨_, _, _, _, _, _, rfl, rfl, by decide, rfl, rfl, rfl, (by intro v hv q e; subst e; simp at hv), ab_met (by decide +kernel) KT_0 KT_nd KT_k3 E_Int_lookAtLimit (cl_Int_lookAtLimit l) hmo (Nat.le_of_ble_eq_true rfl) (ab_rV_inv h) (fun v hv => by cases hv)⟩
/-! StreamTransport$Intake.lookAtLimitAll()V -/
def y_Int_lookAtLimitAll : MethodName := ⟨"StreamTransport$Intake", "lookAtLimitAll", "()V"⟩
def t_Int_lookAtLimitAll (pc : Nat) : Option Ent :=
  bif Nat.blt pc 13 then
    (bif Nat.blt pc 5 then
      (bif Nat.blt pc 1 then
        (bif Nat.beq pc 0 then some (.aload_n 0, 0, 0, 0, 0) else none)
      else
        bif Nat.blt pc 4 then
          (bif Nat.beq pc 1 then some (.invokevirtual 106, 55, 1, 1, 0) else none)
        else
          bif Nat.beq pc 4 then some (.aload_n 0, 0, 0, 0, 0) else none)
    else
      bif Nat.blt pc 9 then
        (bif Nat.blt pc 8 then
          (bif Nat.beq pc 5 then some (.getfield 24, 2, 3, 0, 0) else none)
        else
          bif Nat.beq pc 8 then some (.aload_n 0, 0, 0, 0, 0) else none)
      else
        bif Nat.blt pc 12 then
          (bif Nat.beq pc 9 then some (.getfield 21, 2, 2, 0, 0) else none)
        else
          bif Nat.beq pc 12 then some (.iconst 2, 0, 0, 0, 2) else none)
  else
    bif Nat.blt pc 23 then
      (bif Nat.blt pc 17 then
        (bif Nat.blt pc 14 then
          (bif Nat.beq pc 13 then some (.idiv, 0, 0, 0, 0) else none)
        else
          bif Nat.beq pc 14 then some (.sipush 256, 0, 0, 0, 256) else none)
      else
        bif Nat.blt pc 20 then
          (bif Nat.beq pc 17 then some (.invokestatic 99, 53, 4, 1, 0) else none)
        else
          bif Nat.beq pc 20 then some (.ifCond .eq (8), 28, 0, 0, 0) else none)
    else
      bif Nat.blt pc 25 then
        (bif Nat.blt pc 24 then
          (bif Nat.beq pc 23 then some (.aload_n 0, 0, 0, 0, 0) else none)
        else
          bif Nat.beq pc 24 then some (.iconst 1, 0, 0, 0, 1) else none)
      else
        bif Nat.blt pc 28 then
          (bif Nat.beq pc 25 then some (.putfield 109, 2, 4, 0, 0) else none)
        else
          bif Nat.beq pc 28 then some (.return_, 0, 0, 0, 0) else none
def i_Int_lookAtLimitAll : Nat → Option Ent := ab_tab 29 t_Int_lookAtLimitAll
def h_Int_lookAtLimitAll (pc : Nat) : Nat × List Bool := (0, [])
def s_Int_lookAtLimitAll (pc : Nat) : List (Int32 × Nat) × Nat := ([], 0)
noncomputable def eV_Int_lookAtLimitAll : Nat → List AV → Mm → Option Mm := ab_ev []
noncomputable def eI_Int_lookAtLimitAll : Nat → List AV → Mm → Option (Int32 × Mm) := ab_ev [(55, c_Int_limitForAll), (53, c_Int_isWorthGiving)]
noncomputable def b_Int_lookAtLimitAll_0 (f : Nat) (v0 : Nat) (m : Mm) : Option Rs := ab_ex KT none s_Int_lookAtLimitAll eV_Int_lookAtLimitAll eI_Int_lookAtLimitAll i_Int_lookAtLimitAll h_Int_lookAtLimitAll f 0 [some (.inr (.inr (13, some v0)))] [] m
set_option maxRecDepth 100000 in
set_option maxHeartbeats 4000000 in
theorem b_Int_lookAtLimitAll_0_eq (f : Nat) (v0 : Nat) (m : Mm) : b_Int_lookAtLimitAll_0 (f + 1) v0 m =
    (r_Int_limitForAll v0 m).bind fun z1 =>
    if (2 : Int32) = 0 then none else
    (r_Int_isWorthGiving z1.1 (z1.2.1 43 v0 0) ((z1.2.1 42 v0 0) / (2 : Int32)) (256 : Int32) z1.2).bind fun z2 =>
    if z2.1 = 0 then
      some (.inl (none, z2.2))
    else
      (ab_bo (1 : Int32)).bind fun y4 =>
      ab_let (ab_uI z2.2 44 v0 0 y4) fun m3 =>
      some (.inl (none, m3)) := rfl
noncomputable def r_Int_lookAtLimitAll : Nat → Mm → Option Mm := ab_seal fun v0 m => ab_rV (b_Int_lookAtLimitAll_0 50000 v0 m)
theorem r_Int_lookAtLimitAll_eq (v0 : Nat) (m : Mm) : r_Int_lookAtLimitAll v0 m = ab_rV (b_Int_lookAtLimitAll_0 50000 v0 m) := by
  unfold r_Int_lookAtLimitAll
  rw [ab_seal_eq]
noncomputable def c_Int_lookAtLimitAll : List AV → Mm → Option Mm := fun av m => match av with
  | [.inr (.inr (kv0, ov0))] => if kv0 = 13 then (ov0.bind fun v0 => r_Int_lookAtLimitAll v0 m) else none
  | _ => none
theorem c_Int_lookAtLimitAll_inv {av : List AV} {m : Mm} {r : Mm} (h : c_Int_lookAtLimitAll av m = some r) : ∃ (v0 : Nat), av = [.inr (.inr (13, some v0))] ∧ r_Int_lookAtLimitAll v0 m = some r := by
  unfold c_Int_lookAtLimitAll at h
  split at h
  · rename_i kv0 ov0
    by_cases hkv0 : kv0 = 13
    case neg => rw [if_neg hkv0] at h; cases h
    rw [if_pos hkv0] at h
    subst hkv0
    obtain ⟨v0, hev0, h⟩ := Option.bind_eq_some_iff.mp h
    subst hev0
    exact ⟨v0, rfl, h⟩
  · cases h
def cs_Int_lookAtLimitAll : List Nat := [1, 17]
set_option maxRecDepth 100000 in
theorem E_Int_lookAtLimitAll : ∀ (pc : Nat) (q : Ent), i_Int_lookAtLimitAll pc = some q → ab_E KT CL ab_gW "StreamTransport$Intake" "lookAtLimitAll" none prog_4_method_10_code s_Int_lookAtLimitAll 1 pc q.1 q.2.1 q.2.2.1 q.2.2.2.1 q.2.2.2.2 := fun pc q hq =>
  ab_Eb_ok lc_Int lj_Int fl_Int (fpn_Int "lookAtLimitAll") nw_Int na_Int nq_Int (ab_tab_all (t := t_Int_lookAtLimitAll) (chk := fun pc q => ab_Eb none prog_4_method_10_code s_Int_lookAtLimitAll 1 LC_Int LJ_Int FL_Int FPn_Int NW_Int NA_Int NQ_Int pc q.1 q.2.1 q.2.2.1 q.2.2.2.1 q.2.2.2.2) (by decide +kernel) hq)
set_option maxRecDepth 100000 in
theorem kp_Int_lookAtLimitAll {av : List AV} {m : Mm} {r : Mm} (h : c_Int_lookAtLimitAll av m = some r) : ab_kp m r := by
  obtain ⟨v0, -, h⟩ := c_Int_lookAtLimitAll_inv h
  rw [r_Int_lookAtLimitAll_eq] at h
  have hV : ∀ a av m m', eV_Int_lookAtLimitAll a av m = some m' → ab_kp m m' := ab_ev_all (P := fun _ m r => ab_kp m r) [] (fun q hq => by cases hq)
  have hI : ∀ a av m q, eI_Int_lookAtLimitAll a av m = some q → ab_kp m q.2 := ab_ev_all (P := fun _ (m : Mm) (r : Int32 × Mm) => ab_kp m r.2) [(55, c_Int_limitForAll), (53, c_Int_isWorthGiving)] (List.forall_mem_cons.mpr ⟨fun av m r h => kp_Int_limitForAll h, List.forall_mem_cons.mpr ⟨fun av m r h => kp_Int_isWorthGiving h, fun q hq => by cases hq⟩⟩)
  exact ab_kprel (ρ := .inl (none, r)) (ab_tab_isn (t := t_Int_lookAtLimitAll) (by decide +kernel)) hV hI (ab_rV_inv h)
set_option maxRecDepth 100000 in
theorem cl_Int_lookAtLimitAll (l : Launch) : ∀ (pc : Nat) (q : Ent), i_Int_lookAtLimitAll pc = some q → ab_inv q.1 = true → ab_CR l KT CL none ab_gW "StreamTransport$Intake" prog_4_method_10_code 1 2 43 eV_Int_lookAtLimitAll eI_Int_lookAtLimitAll pc q := by
  intro pc q hq hi
  have hm : pc ∈ cs_Int_lookAtLimitAll := ab_tab_cs (t := t_Int_lookAtLimitAll) (by decide +kernel) hq hi
  simp only [cs_Int_lookAtLimitAll, List.mem_cons, List.not_mem_nil, or_false] at hm
  rcases hm with rfl | rfl
  · cases (Option.some.inj hq : ((.invokevirtual 106, 55, 1, 1, 0) : Ent) = q)
    exact ab_crV (C := "StreamTransport$Intake") (by decide +kernel) cw_Int_limitForAll (ab_gW_in 495 (by decide +kernel) rfl) is_Int_limitForAll sl_Int_limitForAll (by decide) (fun av m m' h => by cases h) (fun av m r h => cm_Int_limitForAll l h) KT_nd
  · cases (Option.some.inj hq : ((.invokestatic 99, 53, 4, 1, 0) : Ent) = q)
    exact ab_crS (by decide +kernel) cw_Int_isWorthGiving (ab_gW_in 740 (by decide +kernel) rfl) st_Int_isWorthGiving (by decide) (fun av m m' h => by cases h) (fun av m r h => cm_Int_isWorthGiving l h) KT_nd
theorem cw_Int_lookAtLimitAll : ab_cw y_Int_lookAtLimitAll prog_4_method_10_code 1 0 none := ⟨ab_gW_in 739 (by decide +kernel) rfl, ab_gW_in 66 (by decide +kernel) rfl, by decide +kernel, by decide +kernel, by decide +kernel⟩
theorem is_Int_lookAtLimitAll : Cond.instanceMethod y_Int_lookAtLimitAll ∈ ab_gW := ab_gW_in 738 (by decide +kernel) rfl
theorem sl_Int_lookAtLimitAll : Cond.selects "StreamTransport$Intake" y_Int_lookAtLimitAll y_Int_lookAtLimitAll ∈ ab_gW := ab_gW_in 27 (by decide +kernel) rfl
set_option maxRecDepth 100000 in
theorem cm_Int_lookAtLimitAll (l : Launch) {av : List AV} {m : Mm} {r : Mm} (h0 : c_Int_lookAtLimitAll av m = some r) : ∃ (k q : Nat) (av' : List AV) (ci : Nat) (fs : List (Nat × Nat × Nat × Nat)) (z : vw_C), av = .inr (.inr (k, some q)) :: av' ∧ av'.length = 0 ∧ k ≠ 0 ∧ KT[k]? = some (.inl (ci, fs)) ∧ CL[ci]? = some z ∧ z.1 = "StreamTransport$Intake" ∧ ab_nos av' ∧ ab_Met l KT CL y_Int_lookAtLimitAll (Cond.code y_Int_lookAtLimitAll prog_4_method_10_code 1 none :: ab_gW) 2 43 none av m none r := by
  obtain ⟨v0, hav, h⟩ := c_Int_lookAtLimitAll_inv h0
  rw [r_Int_lookAtLimitAll_eq] at h
  have hmo : ab_mo m r := ab_kp_mo (kp_Int_lookAtLimitAll h0)
  subst hav
  exact ⟨_, _, _, _, _, _, rfl, rfl, by decide, rfl, rfl, rfl, (by intro v hv q e; subst e; simp at hv), ab_met (by decide +kernel) KT_0 KT_nd KT_k3 E_Int_lookAtLimitAll (cl_Int_lookAtLimitAll l) hmo (Nat.le_of_ble_eq_true rfl) (ab_rV_inv h) (fun v hv => by cases hv)⟩
/-! StreamTransport$Intake.takeByte(LStreamTransport$Incoming;)I -/
def y_Int_takeByte : MethodName := ⟨"StreamTransport$Intake", "takeByte", "(LStreamTransport$Incoming;)I"⟩
def t_Int_takeByte (pc : Nat) : Option Ent :=
  bif Nat.blt pc 21 then
    (bif Nat.blt pc 11 then
      (bif Nat.blt pc 6 then
        (bif Nat.blt pc 1 then
          (bif Nat.beq pc 0 then some (.aload_n 1, 1, 0, 0, 0) else none)
        else
          bif Nat.blt pc 4 then
            (bif Nat.beq pc 1 then some (.getfield 30, 1, 1, 0, 0) else none)
          else
            bif Nat.beq pc 4 then some (.bipush 64, 0, 0, 0, 64) else none)
      else
        bif Nat.blt pc 9 then
          (bif Nat.beq pc 6 then some (.if_icmp .lt (5), 11, 0, 0, 0) else none)
        else
          bif Nat.blt pc 10 then
            (bif Nat.beq pc 9 then some (.iconst (-1), 0, 0, 0, -1) else none)
          else
            bif Nat.beq pc 10 then some (.ireturn, 0, 0, 0, 0) else none)
    else
      bif Nat.blt pc 16 then
        (bif Nat.blt pc 12 then
          (bif Nat.beq pc 11 then some (.aload_n 1, 1, 0, 0, 0) else none)
        else
          bif Nat.blt pc 15 then
            (bif Nat.beq pc 12 then some (.getfield 33, 1, 0, 1, 0) else none)
          else
            bif Nat.beq pc 15 then some (.aload_n 1, 1, 0, 0, 0) else none)
      else
        bif Nat.blt pc 19 then
          (bif Nat.beq pc 16 then some (.getfield 30, 1, 1, 0, 0) else none)
        else
          bif Nat.blt pc 20 then
            (bif Nat.beq pc 19 then some (.iaload, 0, 0, 0, 0) else none)
          else
            bif Nat.beq pc 20 then some (.istore_n 2, 2, 0, 0, 0) else none)
  else
    bif Nat.blt pc 31 then
      (bif Nat.blt pc 26 then
        (bif Nat.blt pc 22 then
          (bif Nat.beq pc 21 then some (.aload_n 1, 1, 0, 0, 0) else none)
        else
          bif Nat.blt pc 23 then
            (bif Nat.beq pc 22 then some (.dup, 0, 0, 1, 0) else none)
          else
            bif Nat.beq pc 23 then some (.getfield 30, 1, 1, 0, 0) else none)
      else
        bif Nat.blt pc 27 then
          (bif Nat.beq pc 26 then some (.iconst 1, 0, 0, 0, 1) else none)
        else
          bif Nat.blt pc 28 then
            (bif Nat.beq pc 27 then some (.iadd, 0, 0, 0, 0) else none)
          else
            bif Nat.beq pc 28 then some (.putfield 30, 1, 1, 0, 0) else none)
    else
      bif Nat.blt pc 36 then
        (bif Nat.blt pc 32 then
          (bif Nat.beq pc 31 then some (.aload_n 0, 0, 0, 0, 0) else none)
        else
          bif Nat.blt pc 33 then
            (bif Nat.beq pc 32 then some (.aload_n 1, 1, 0, 0, 0) else none)
          else
            bif Nat.beq pc 33 then some (.invokevirtual 37, 56, 2, 0, 0) else none)
      else
        bif Nat.blt pc 40 then
          (bif Nat.blt pc 37 then
            (bif Nat.beq pc 36 then some (.aload_n 0, 0, 0, 0, 0) else none)
          else
            bif Nat.beq pc 37 then some (.invokevirtual 41, 57, 1, 0, 0) else none)
        else
          bif Nat.blt pc 41 then
            (bif Nat.beq pc 40 then some (.iload_n 2, 2, 0, 0, 0) else none)
          else
            bif Nat.beq pc 41 then some (.ireturn, 0, 0, 0, 0) else none
def i_Int_takeByte : Nat → Option Ent := ab_tab 42 t_Int_takeByte
def h_Int_takeByte (pc : Nat) : Nat × List Bool := (0, [])
def s_Int_takeByte (pc : Nat) : List (Int32 × Nat) × Nat := ([], 0)
noncomputable def eV_Int_takeByte : Nat → List AV → Mm → Option Mm := ab_ev [(56, c_Int_lookAtLimit), (57, c_Int_lookAtLimitAll)]
noncomputable def eI_Int_takeByte : Nat → List AV → Mm → Option (Int32 × Mm) := ab_ev []
noncomputable def b_Int_takeByte_0 (f : Nat) (v0 : Nat) (v1 : Nat) (m : Mm) : Option Rs := ab_ex KT none s_Int_takeByte eV_Int_takeByte eI_Int_takeByte i_Int_takeByte h_Int_takeByte f 0 [some (.inr (.inr (13, some v0))), some (.inr (.inr (15, some v1))), none] [] m
set_option maxRecDepth 100000 in
set_option maxHeartbeats 4000000 in
theorem b_Int_takeByte_0_eq (f : Nat) (v0 : Nat) (v1 : Nat) (m : Mm) : b_Int_takeByte_0 (f + 1) v0 v1 m =
    if (m.1 47 v1 0) < (64 : Int32) then
      (ab_ix (m.1 47 v1 0) 64).bind fun i1 =>
      ab_let ((m.1 53 (v1 + 1) i1)) fun x2 =>
      ab_let (ab_uI m 47 v1 0 ((m.1 47 v1 0) + (1 : Int32))) fun m3 =>
      (r_Int_lookAtLimit v0 v1 m3).bind fun m4 =>
      (r_Int_lookAtLimitAll v0 m4).bind fun m5 =>
      some (.inl (some (.inl x2), m5))
    else
      some (.inl (some (.inl (-1 : Int32)), m)) := rfl
noncomputable def r_Int_takeByte : Nat → Nat → Mm → Option (Int32 × Mm) := ab_seal fun v0 v1 m => ab_rI (b_Int_takeByte_0 50000 v0 v1 m)
theorem r_Int_takeByte_eq (v0 : Nat) (v1 : Nat) (m : Mm) : r_Int_takeByte v0 v1 m = ab_rI (b_Int_takeByte_0 50000 v0 v1 m) := by
  unfold r_Int_takeByte
  rw [ab_seal_eq]
noncomputable def c_Int_takeByte : List AV → Mm → Option (Int32 × Mm) := fun av m => match av with
  | [.inr (.inr (kv0, ov0)), .inr (.inr (kv1, ov1))] => if kv0 = 13 then (if kv1 = 15 then (ov0.bind fun v0 => ov1.bind fun v1 => r_Int_takeByte v0 v1 m) else none) else none
  | _ => none
theorem c_Int_takeByte_inv {av : List AV} {m : Mm} {r : Int32 × Mm} (h : c_Int_takeByte av m = some r) : ∃ (v0 : Nat) (v1 : Nat), av = [.inr (.inr (13, some v0)), .inr (.inr (15, some v1))] ∧ r_Int_takeByte v0 v1 m = some r := by
  unfold c_Int_takeByte at h
  split at h
  · rename_i kv0 ov0 kv1 ov1
    by_cases hkv0 : kv0 = 13
    case neg => rw [if_neg hkv0] at h; cases h
    rw [if_pos hkv0] at h
    subst hkv0
    by_cases hkv1 : kv1 = 15
    case neg => rw [if_neg hkv1] at h; cases h
    rw [if_pos hkv1] at h
    subst hkv1
    obtain ⟨v0, hev0, h⟩ := Option.bind_eq_some_iff.mp h
    obtain ⟨v1, hev1, h⟩ := Option.bind_eq_some_iff.mp h
    subst hev0
    subst hev1
    exact ⟨v0, v1, rfl, h⟩
  · cases h
def cs_Int_takeByte : List Nat := [33, 37]
set_option maxRecDepth 100000 in
theorem E_Int_takeByte : ∀ (pc : Nat) (q : Ent), i_Int_takeByte pc = some q → ab_E KT CL ab_gW "StreamTransport$Intake" "takeByte" (some .int) prog_4_method_2_code s_Int_takeByte 3 pc q.1 q.2.1 q.2.2.1 q.2.2.2.1 q.2.2.2.2 := fun pc q hq =>
  ab_Eb_ok lc_Int lj_Int fl_Int (fpn_Int "takeByte") nw_Int na_Int nq_Int (ab_tab_all (t := t_Int_takeByte) (chk := fun pc q => ab_Eb (some .int) prog_4_method_2_code s_Int_takeByte 3 LC_Int LJ_Int FL_Int FPn_Int NW_Int NA_Int NQ_Int pc q.1 q.2.1 q.2.2.1 q.2.2.2.1 q.2.2.2.2) (by decide +kernel) hq)
set_option maxRecDepth 100000 in
theorem kp_Int_takeByte {av : List AV} {m : Mm} {r : Int32 × Mm} (h : c_Int_takeByte av m = some r) : ab_kp m r.2 := by
  obtain ⟨v0, v1, -, h⟩ := c_Int_takeByte_inv h
  rw [r_Int_takeByte_eq] at h
  have hV : ∀ a av m m', eV_Int_takeByte a av m = some m' → ab_kp m m' := ab_ev_all (P := fun _ m r => ab_kp m r) [(56, c_Int_lookAtLimit), (57, c_Int_lookAtLimitAll)] (List.forall_mem_cons.mpr ⟨fun av m r h => kp_Int_lookAtLimit h, List.forall_mem_cons.mpr ⟨fun av m r h => kp_Int_lookAtLimitAll h, fun q hq => by cases hq⟩⟩)
  have hI : ∀ a av m q, eI_Int_takeByte a av m = some q → ab_kp m q.2 := ab_ev_all (P := fun _ (m : Mm) (r : Int32 × Mm) => ab_kp m r.2) [] (fun q hq => by cases hq)
  exact ab_kprel (ρ := .inl (some (.inl r.1), r.2)) (ab_tab_isn (t := t_Int_takeByte) (by decide +kernel)) hV hI (ab_rI_inv h)
set_option maxRecDepth 100000 in
theorem cl_Int_takeByte (l : Launch) : ∀ (pc : Nat) (q : Ent), i_Int_takeByte pc = some q → ab_inv q.1 = true → ab_CR l KT CL none ab_gW "StreamTransport$Intake" prog_4_method_2_code 3 3 63 eV_Int_takeByte eI_Int_takeByte pc q := by
  intro pc q hq hi
  have hm : pc ∈ cs_Int_takeByte := ab_tab_cs (t := t_Int_takeByte) (by decide +kernel) hq hi
  simp only [cs_Int_takeByte, List.mem_cons, List.not_mem_nil, or_false] at hm
  rcases hm with rfl | rfl
  · cases (Option.some.inj hq : ((.invokevirtual 37, 56, 2, 0, 0) : Ent) = q)
    exact ab_crV (C := "StreamTransport$Intake") (by decide +kernel) cw_Int_lookAtLimit (ab_gW_in 976 (by decide +kernel) rfl) is_Int_lookAtLimit sl_Int_lookAtLimit (by decide) (fun av m m' h => cm_Int_lookAtLimit l h) (fun av m r h => by cases h) KT_nd
  · cases (Option.some.inj hq : ((.invokevirtual 41, 57, 1, 0, 0) : Ent) = q)
    exact ab_crV (C := "StreamTransport$Intake") (by decide +kernel) cw_Int_lookAtLimitAll (ab_gW_in 736 (by decide +kernel) rfl) is_Int_lookAtLimitAll sl_Int_lookAtLimitAll (by decide) (fun av m m' h => cm_Int_lookAtLimitAll l h) (fun av m r h => by cases h) KT_nd
theorem cw_Int_takeByte : ab_cw y_Int_takeByte prog_4_method_2_code 3 1 (some .int) := ⟨ab_gW_in 975 (by decide +kernel) rfl, ab_gW_in 66 (by decide +kernel) rfl, by decide +kernel, by decide +kernel, by decide +kernel⟩
theorem is_Int_takeByte : Cond.instanceMethod y_Int_takeByte ∈ ab_gW := ab_gW_in 973 (by decide +kernel) rfl
theorem sl_Int_takeByte : Cond.selects "StreamTransport$Intake" y_Int_takeByte y_Int_takeByte ∈ ab_gW := ab_gW_in 974 (by decide +kernel) rfl
set_option maxRecDepth 100000 in
theorem cm_Int_takeByte (l : Launch) {av : List AV} {m : Mm} {r : Int32 × Mm} (h0 : c_Int_takeByte av m = some r) : ∃ (k q : Nat) (av' : List AV) (ci : Nat) (fs : List (Nat × Nat × Nat × Nat)) (z : vw_C), av = .inr (.inr (k, some q)) :: av' ∧ av'.length = 1 ∧ k ≠ 0 ∧ KT[k]? = some (.inl (ci, fs)) ∧ CL[ci]? = some z ∧ z.1 = "StreamTransport$Intake" ∧ ab_nos av' ∧ ab_Met l KT CL y_Int_takeByte (Cond.code y_Int_takeByte prog_4_method_2_code 3 (some .int) :: ab_gW) 3 63 none av m (some (.inl r.1)) r.2 := by
  obtain ⟨v0, v1, hav, h⟩ := c_Int_takeByte_inv h0
  rw [r_Int_takeByte_eq] at h
  have hmo : ab_mo m r.2 := ab_kp_mo (kp_Int_takeByte h0)
  subst hav
  exact ⟨_, _, _, _, _, _, rfl, rfl, by decide, rfl, rfl, rfl, (by intro v hv q e; subst e; simp at hv), ab_met (by decide +kernel) KT_0 KT_nd KT_k3 E_Int_takeByte (cl_Int_takeByte l) hmo (Nat.le_of_ble_eq_true rfl) (ab_rI_inv h) (fun v hv => by cases hv; exact ⟨_, rfl⟩)⟩
/-! StreamTransport$Intake.reachOfAll(II)I -/
def y_Int_reachOfAll : MethodName := ⟨"StreamTransport$Intake", "reachOfAll", "(II)I"⟩
def t_Int_reachOfAll (pc : Nat) : Option Ent :=
  bif Nat.blt pc 25 then
    (bif Nat.blt pc 11 then
      (bif Nat.blt pc 3 then
        (bif Nat.blt pc 1 then
          (bif Nat.beq pc 0 then some (.iconst 0, 0, 0, 0, 0) else none)
        else
          bif Nat.blt pc 2 then
            (bif Nat.beq pc 1 then some (.istore_n 3, 3, 0, 0, 0) else none)
          else
            bif Nat.beq pc 2 then some (.iconst 0, 0, 0, 0, 0) else none)
      else
        bif Nat.blt pc 7 then
          (bif Nat.blt pc 5 then
            (bif Nat.beq pc 3 then some (.istore 4, 4, 0, 0, 0) else none)
          else
            bif Nat.beq pc 5 then some (.iload 4, 4, 0, 0, 0) else none)
        else
          bif Nat.blt pc 8 then
            (bif Nat.beq pc 7 then some (.iconst 4, 0, 0, 0, 4) else none)
          else
            bif Nat.beq pc 8 then some (.if_icmp .ge (45), 53, 0, 0, 0) else none)
    else
      bif Nat.blt pc 18 then
        (bif Nat.blt pc 14 then
          (bif Nat.blt pc 12 then
            (bif Nat.beq pc 11 then some (.iload_n 3, 3, 0, 0, 0) else none)
          else
            bif Nat.beq pc 12 then some (.iload 4, 4, 0, 0, 0) else none)
        else
          bif Nat.blt pc 15 then
            (bif Nat.beq pc 14 then some (.iload_n 1, 1, 0, 0, 0) else none)
          else
            bif Nat.beq pc 15 then some (.if_icmp .ne (20), 35, 0, 0, 0) else none)
      else
        bif Nat.blt pc 22 then
          (bif Nat.blt pc 19 then
            (bif Nat.beq pc 18 then some (.aload_n 0, 0, 0, 0, 0) else none)
          else
            bif Nat.beq pc 19 then some (.getfield 11, 2, 0, 1, 0) else none)
        else
          bif Nat.blt pc 24 then
            (bif Nat.beq pc 22 then some (.iload 4, 4, 0, 0, 0) else none)
          else
            bif Nat.beq pc 24 then some (.aaload, 0, 0, 0, 0) else none)
  else
    bif Nat.blt pc 41 then
      (bif Nat.blt pc 32 then
        (bif Nat.blt pc 28 then
          (bif Nat.beq pc 25 then some (.getfield 80, 1, 2, 0, 0) else none)
        else
          bif Nat.blt pc 29 then
            (bif Nat.beq pc 28 then some (.iload_n 2, 2, 0, 0, 0) else none)
          else
            bif Nat.beq pc 29 then some (.invokestatic 83, 1, 2, 1, 0) else none)
      else
        bif Nat.blt pc 36 then
          (bif Nat.blt pc 35 then
            (bif Nat.beq pc 32 then some (.goto 13, 45, 0, 0, 0) else none)
          else
            bif Nat.beq pc 35 then some (.aload_n 0, 0, 0, 0, 0) else none)
        else
          bif Nat.blt pc 39 then
            (bif Nat.beq pc 36 then some (.getfield 11, 2, 0, 1, 0) else none)
          else
            bif Nat.beq pc 39 then some (.iload 4, 4, 0, 0, 0) else none)
    else
      bif Nat.blt pc 47 then
        (bif Nat.blt pc 45 then
          (bif Nat.blt pc 42 then
            (bif Nat.beq pc 41 then some (.aaload, 0, 0, 0, 0) else none)
          else
            bif Nat.beq pc 42 then some (.getfield 80, 1, 2, 0, 0) else none)
        else
          bif Nat.blt pc 46 then
            (bif Nat.beq pc 45 then some (.iadd, 0, 0, 0, 0) else none)
          else
            bif Nat.beq pc 46 then some (.istore_n 3, 3, 0, 0, 0) else none)
      else
        bif Nat.blt pc 53 then
          (bif Nat.blt pc 50 then
            (bif Nat.beq pc 47 then some (.iinc 4 1, 4, 0, 0, 1) else none)
          else
            bif Nat.beq pc 50 then some (.goto (-45), 5, 0, 0, 0) else none)
        else
          bif Nat.blt pc 54 then
            (bif Nat.beq pc 53 then some (.iload_n 3, 3, 0, 0, 0) else none)
          else
            bif Nat.beq pc 54 then some (.ireturn, 0, 0, 0, 0) else none
def i_Int_reachOfAll : Nat → Option Ent := ab_tab 55 t_Int_reachOfAll
def h_Int_reachOfAll (pc : Nat) : Nat × List Bool := bif Nat.beq pc 5 then (1, [true, true, true, true, true]) else bif Nat.beq pc 45 then (1, [true, true, true, false, true]) else (0, [])
def s_Int_reachOfAll (pc : Nat) : List (Int32 × Nat) × Nat := ([], 0)
noncomputable def eV_Int_reachOfAll : Nat → List AV → Mm → Option Mm := ab_ev []
noncomputable def eI_Int_reachOfAll : Nat → List AV → Mm → Option (Int32 × Mm) := ab_ev [(1, c_Math_max)]
noncomputable def b_Int_reachOfAll_0 (f : Nat) (v0 : Nat) (v1 : Int32) (v2 : Int32) (m : Mm) : Option Rs := ab_ex KT none s_Int_reachOfAll eV_Int_reachOfAll eI_Int_reachOfAll i_Int_reachOfAll h_Int_reachOfAll f 0 [some (.inr (.inr (13, some v0))), some (.inl v1), some (.inl v2), none, none] [] m
noncomputable def b_Int_reachOfAll_5 (f : Nat) (v0 : Nat) (v1 : Int32) (v2 : Int32) (v3 : Int32) (v4 : Int32) (m : Mm) : Option Rs := ab_ex KT none s_Int_reachOfAll eV_Int_reachOfAll eI_Int_reachOfAll i_Int_reachOfAll h_Int_reachOfAll f 5 [some (.inr (.inr (13, some v0))), some (.inl v1), some (.inl v2), some (.inl v3), some (.inl v4)] [] m
noncomputable def b_Int_reachOfAll_45 (f : Nat) (v0 : Nat) (v1 : Int32) (v2 : Int32) (v4 : Int32) (u0 : Int32) (u1 : Int32) (m : Mm) : Option Rs := ab_ex KT none s_Int_reachOfAll eV_Int_reachOfAll eI_Int_reachOfAll i_Int_reachOfAll h_Int_reachOfAll f 45 [some (.inr (.inr (13, some v0))), some (.inl v1), some (.inl v2), none, some (.inl v4)] [.inl u1, .inl u0] m
set_option maxRecDepth 100000 in
set_option maxHeartbeats 4000000 in
theorem b_Int_reachOfAll_0_eq (f : Nat) (v0 : Nat) (v1 : Int32) (v2 : Int32) (m : Mm) : b_Int_reachOfAll_0 (f + 1) v0 v1 v2 m =
    b_Int_reachOfAll_5 f v0 v1 v2 (0 : Int32) (0 : Int32) m := rfl
set_option maxRecDepth 100000 in
set_option maxHeartbeats 4000000 in
theorem b_Int_reachOfAll_5_eq (f : Nat) (v0 : Nat) (v1 : Int32) (v2 : Int32) (v3 : Int32) (v4 : Int32) (m : Mm) : b_Int_reachOfAll_5 (f + 1) v0 v1 v2 v3 v4 m =
    if (4 : Int32) ≤ v4 then
      some (.inl (some (.inl v3), m))
    else
      if v4 = v1 then
        (ab_ix v4 4).bind fun i2 =>
        (r_Math_max (m.1 48 ((v0 + 1) + 1 + 2 * i2) 0) v2 m).bind fun z3 =>
        b_Int_reachOfAll_45 f v0 v1 v2 v4 v3 z3.1 z3.2
      else
        (ab_ix v4 4).bind fun i1 =>
        b_Int_reachOfAll_45 f v0 v1 v2 v4 v3 (m.1 48 ((v0 + 1) + 1 + 2 * i1) 0) m := rfl
set_option maxRecDepth 100000 in
set_option maxHeartbeats 4000000 in
theorem b_Int_reachOfAll_45_eq (f : Nat) (v0 : Nat) (v1 : Int32) (v2 : Int32) (v4 : Int32) (u0 : Int32) (u1 : Int32) (m : Mm) : b_Int_reachOfAll_45 (f + 1) v0 v1 v2 v4 u0 u1 m =
    ab_let ((u0 + u1)) fun x1 =>
    ab_let (v4 + (1 : Int32)) fun x2 =>
    b_Int_reachOfAll_5 f v0 v1 v2 x1 x2 m := rfl
noncomputable def r_Int_reachOfAll : Nat → Int32 → Int32 → Mm → Option (Int32 × Mm) := ab_seal fun v0 v1 v2 m => ab_rI (b_Int_reachOfAll_0 50000 v0 v1 v2 m)
theorem r_Int_reachOfAll_eq (v0 : Nat) (v1 : Int32) (v2 : Int32) (m : Mm) : r_Int_reachOfAll v0 v1 v2 m = ab_rI (b_Int_reachOfAll_0 50000 v0 v1 v2 m) := by
  unfold r_Int_reachOfAll
  rw [ab_seal_eq]
noncomputable def c_Int_reachOfAll : List AV → Mm → Option (Int32 × Mm) := fun av m => match av with
  | [.inr (.inr (kv0, ov0)), .inl v1, .inl v2] => if kv0 = 13 then (ov0.bind fun v0 => r_Int_reachOfAll v0 v1 v2 m) else none
  | _ => none
theorem c_Int_reachOfAll_inv {av : List AV} {m : Mm} {r : Int32 × Mm} (h : c_Int_reachOfAll av m = some r) : ∃ (v0 : Nat) (v1 : Int32) (v2 : Int32), av = [.inr (.inr (13, some v0)), .inl v1, .inl v2] ∧ r_Int_reachOfAll v0 v1 v2 m = some r := by
  unfold c_Int_reachOfAll at h
  split at h
  · rename_i kv0 ov0 v1 v2
    by_cases hkv0 : kv0 = 13
    case neg => rw [if_neg hkv0] at h; cases h
    rw [if_pos hkv0] at h
    subst hkv0
    obtain ⟨v0, hev0, h⟩ := Option.bind_eq_some_iff.mp h
    subst hev0
    exact ⟨v0, v1, v2, rfl, h⟩
  · cases h
def cs_Int_reachOfAll : List Nat := [29]
set_option maxRecDepth 100000 in
theorem E_Int_reachOfAll : ∀ (pc : Nat) (q : Ent), i_Int_reachOfAll pc = some q → ab_E KT CL ab_gW "StreamTransport$Intake" "reachOfAll" (some .int) prog_4_method_6_code s_Int_reachOfAll 5 pc q.1 q.2.1 q.2.2.1 q.2.2.2.1 q.2.2.2.2 := fun pc q hq =>
  ab_Eb_ok lc_Int lj_Int fl_Int (fpn_Int "reachOfAll") nw_Int na_Int nq_Int (ab_tab_all (t := t_Int_reachOfAll) (chk := fun pc q => ab_Eb (some .int) prog_4_method_6_code s_Int_reachOfAll 5 LC_Int LJ_Int FL_Int FPn_Int NW_Int NA_Int NQ_Int pc q.1 q.2.1 q.2.2.1 q.2.2.2.1 q.2.2.2.2) (by decide +kernel) hq)
set_option maxRecDepth 100000 in
theorem kp_Int_reachOfAll {av : List AV} {m : Mm} {r : Int32 × Mm} (h : c_Int_reachOfAll av m = some r) : ab_kp m r.2 := by
  obtain ⟨v0, v1, v2, -, h⟩ := c_Int_reachOfAll_inv h
  rw [r_Int_reachOfAll_eq] at h
  have hV : ∀ a av m m', eV_Int_reachOfAll a av m = some m' → ab_kp m m' := ab_ev_all (P := fun _ m r => ab_kp m r) [] (fun q hq => by cases hq)
  have hI : ∀ a av m q, eI_Int_reachOfAll a av m = some q → ab_kp m q.2 := ab_ev_all (P := fun _ (m : Mm) (r : Int32 × Mm) => ab_kp m r.2) [(1, c_Math_max)] (List.forall_mem_cons.mpr ⟨fun av m r h => kp_Math_max h, fun q hq => by cases hq⟩)
  exact ab_kprel (ρ := .inl (some (.inl r.1), r.2)) (ab_tab_isn (t := t_Int_reachOfAll) (by decide +kernel)) hV hI (ab_rI_inv h)
set_option maxRecDepth 100000 in
theorem cl_Int_reachOfAll (l : Launch) : ∀ (pc : Nat) (q : Ent), i_Int_reachOfAll pc = some q → ab_inv q.1 = true → ab_CR l KT CL none ab_gW "StreamTransport$Intake" prog_4_method_6_code 5 1 21 eV_Int_reachOfAll eI_Int_reachOfAll pc q := by
  intro pc q hq hi
  have hm : pc ∈ cs_Int_reachOfAll := ab_tab_cs (t := t_Int_reachOfAll) (by decide +kernel) hq hi
  simp only [cs_Int_reachOfAll, List.mem_cons, List.not_mem_nil, or_false] at hm
  rcases hm with rfl
  · cases (Option.some.inj hq : ((.invokestatic 83, 1, 2, 1, 0) : Ent) = q)
    exact ab_crS (by decide +kernel) cw_Math_max (ab_gW_in 714 (by decide +kernel) rfl) st_Math_max (by decide) (fun av m m' h => by cases h) (fun av m r h => cm_Math_max l h) KT_nd
theorem cw_Int_reachOfAll : ab_cw y_Int_reachOfAll prog_4_method_6_code 5 2 (some .int) := ⟨ab_gW_in 713 (by decide +kernel) rfl, ab_gW_in 66 (by decide +kernel) rfl, by decide +kernel, by decide +kernel, by decide +kernel⟩
theorem is_Int_reachOfAll : Cond.instanceMethod y_Int_reachOfAll ∈ ab_gW := ab_gW_in 712 (by decide +kernel) rfl
theorem sl_Int_reachOfAll : Cond.selects "StreamTransport$Intake" y_Int_reachOfAll y_Int_reachOfAll ∈ ab_gW := ab_gW_in 26 (by decide +kernel) rfl
set_option maxRecDepth 100000 in
theorem cm_Int_reachOfAll (l : Launch) {av : List AV} {m : Mm} {r : Int32 × Mm} (h0 : c_Int_reachOfAll av m = some r) : ∃ (k q : Nat) (av' : List AV) (ci : Nat) (fs : List (Nat × Nat × Nat × Nat)) (z : vw_C), av = .inr (.inr (k, some q)) :: av' ∧ av'.length = 2 ∧ k ≠ 0 ∧ KT[k]? = some (.inl (ci, fs)) ∧ CL[ci]? = some z ∧ z.1 = "StreamTransport$Intake" ∧ ab_nos av' ∧ ab_Met l KT CL y_Int_reachOfAll (Cond.code y_Int_reachOfAll prog_4_method_6_code 5 (some .int) :: ab_gW) 1 21 none av m (some (.inl r.1)) r.2 := by
  obtain ⟨v0, v1, v2, hav, h⟩ := c_Int_reachOfAll_inv h0
  rw [r_Int_reachOfAll_eq] at h
  have hmo : ab_mo m r.2 := ab_kp_mo (kp_Int_reachOfAll h0)
  subst hav
  exact ⟨_, _, _, _, _, _, rfl, rfl, by decide, rfl, rfl, rfl, (by intro v hv q e; subst e; simp at hv), ab_met (by decide +kernel) KT_0 KT_nd KT_k3 E_Int_reachOfAll (cl_Int_reachOfAll l) hmo (Nat.le_of_ble_eq_true rfl) (ab_rI_inv h) (fun v hv => by cases hv; exact ⟨_, rfl⟩)⟩
/-! StreamTransport$Intake.findFault(IIZ)I -/
def y_Int_findFault : MethodName := ⟨"StreamTransport$Intake", "findFault", "(IIZ)I"⟩
def t_Int_findFault (pc : Nat) : Option Ent :=
  bif Nat.blt pc 27 then
    (bif Nat.blt pc 12 then
      (bif Nat.blt pc 6 then
        (bif Nat.blt pc 4 then
          (bif Nat.blt pc 1 then
            (bif Nat.beq pc 0 then some (.iload_n 1, 1, 0, 0, 0) else none)
          else
            bif Nat.beq pc 1 then some (.ifCond .lt (8), 9, 0, 0, 0) else none)
        else
          bif Nat.blt pc 5 then
            (bif Nat.beq pc 4 then some (.iload_n 1, 1, 0, 0, 0) else none)
          else
            bif Nat.beq pc 5 then some (.iconst 4, 0, 0, 0, 4) else none)
      else
        bif Nat.blt pc 10 then
          (bif Nat.blt pc 9 then
            (bif Nat.beq pc 6 then some (.if_icmp .lt (5), 11, 0, 0, 0) else none)
          else
            bif Nat.beq pc 9 then some (.iconst 2, 0, 0, 0, 2) else none)
        else
          bif Nat.blt pc 11 then
            (bif Nat.beq pc 10 then some (.ireturn, 0, 0, 0, 0) else none)
          else
            bif Nat.beq pc 11 then some (.iload_n 2, 2, 0, 0, 0) else none)
    else
      bif Nat.blt pc 18 then
        (bif Nat.blt pc 16 then
          (bif Nat.blt pc 13 then
            (bif Nat.beq pc 12 then some (.aload_n 0, 0, 0, 0, 0) else none)
          else
            bif Nat.beq pc 13 then some (.getfield 11, 2, 0, 1, 0) else none)
        else
          bif Nat.blt pc 17 then
            (bif Nat.beq pc 16 then some (.iload_n 1, 1, 0, 0, 0) else none)
          else
            bif Nat.beq pc 17 then some (.aaload, 0, 0, 0, 0) else none)
      else
        bif Nat.blt pc 24 then
          (bif Nat.blt pc 21 then
            (bif Nat.beq pc 18 then some (.getfield 69, 1, 4, 0, 0) else none)
          else
            bif Nat.beq pc 21 then some (.if_icmp .gt (16), 37, 0, 0, 0) else none)
        else
          bif Nat.blt pc 25 then
            (bif Nat.beq pc 24 then some (.aload_n 0, 0, 0, 0, 0) else none)
          else
            bif Nat.blt pc 26 then
              (bif Nat.beq pc 25 then some (.iload_n 1, 1, 0, 0, 0) else none)
            else
              bif Nat.beq pc 26 then some (.iload_n 2, 2, 0, 0, 0) else none)
  else
    bif Nat.blt pc 44 then
      (bif Nat.blt pc 37 then
        (bif Nat.blt pc 31 then
          (bif Nat.blt pc 30 then
            (bif Nat.beq pc 27 then some (.invokevirtual 72, 59, 3, 1, 0) else none)
          else
            bif Nat.beq pc 30 then some (.aload_n 0, 0, 0, 0, 0) else none)
        else
          bif Nat.blt pc 34 then
            (bif Nat.beq pc 31 then some (.getfield 24, 2, 3, 0, 0) else none)
          else
            bif Nat.beq pc 34 then some (.if_icmp .le (5), 39, 0, 0, 0) else none)
      else
        bif Nat.blt pc 39 then
          (bif Nat.blt pc 38 then
            (bif Nat.beq pc 37 then some (.iconst 3, 0, 0, 0, 3) else none)
          else
            bif Nat.beq pc 38 then some (.ireturn, 0, 0, 0, 0) else none)
        else
          bif Nat.blt pc 40 then
            (bif Nat.beq pc 39 then some (.aload_n 0, 0, 0, 0, 0) else none)
          else
            bif Nat.blt pc 43 then
              (bif Nat.beq pc 40 then some (.getfield 11, 2, 0, 1, 0) else none)
            else
              bif Nat.beq pc 43 then some (.iload_n 1, 1, 0, 0, 0) else none)
    else
      bif Nat.blt pc 50 then
        (bif Nat.blt pc 46 then
          (bif Nat.blt pc 45 then
            (bif Nat.beq pc 44 then some (.aaload, 0, 0, 0, 0) else none)
          else
            bif Nat.beq pc 45 then some (.iload_n 2, 2, 0, 0, 0) else none)
        else
          bif Nat.blt pc 47 then
            (bif Nat.beq pc 46 then some (.iload_n 3, 3, 0, 0, 0) else none)
          else
            bif Nat.beq pc 47 then some (.invokevirtual 76, 50, 3, 1, 0) else none)
      else
        bif Nat.blt pc 54 then
          (bif Nat.blt pc 53 then
            (bif Nat.beq pc 50 then some (.ifCond .eq (7), 57, 0, 0, 0) else none)
          else
            bif Nat.beq pc 53 then some (.iconst 4, 0, 0, 0, 4) else none)
        else
          bif Nat.blt pc 57 then
            (bif Nat.beq pc 54 then some (.goto 4, 58, 0, 0, 0) else none)
          else
            bif Nat.blt pc 58 then
              (bif Nat.beq pc 57 then some (.iconst 0, 0, 0, 0, 0) else none)
            else
              bif Nat.beq pc 58 then some (.ireturn, 0, 0, 0, 0) else none
def i_Int_findFault : Nat → Option Ent := ab_tab 59 t_Int_findFault
def h_Int_findFault (pc : Nat) : Nat × List Bool := (0, [])
def s_Int_findFault (pc : Nat) : List (Int32 × Nat) × Nat := ([], 0)
noncomputable def eV_Int_findFault : Nat → List AV → Mm → Option Mm := ab_ev []
noncomputable def eI_Int_findFault : Nat → List AV → Mm → Option (Int32 × Mm) := ab_ev [(59, c_Int_reachOfAll), (50, c_Inc_isWrongSize)]
noncomputable def b_Int_findFault_0 (f : Nat) (v0 : Nat) (v1 : Int32) (v2 : Int32) (v3 : Int32) (m : Mm) : Option Rs := ab_ex KT none s_Int_findFault eV_Int_findFault eI_Int_findFault i_Int_findFault h_Int_findFault f 0 [some (.inr (.inr (13, some v0))), some (.inl v1), some (.inl v2), some (.inl v3)] [] m
set_option maxRecDepth 100000 in
set_option maxHeartbeats 4000000 in
theorem b_Int_findFault_0_eq (f : Nat) (v0 : Nat) (v1 : Int32) (v2 : Int32) (v3 : Int32) (m : Mm) : b_Int_findFault_0 (f + 1) v0 v1 v2 v3 m =
    if v1 < 0 then
      some (.inl (some (.inl (2 : Int32)), m))
    else
      if v1 < (4 : Int32) then
        (ab_ix v1 4).bind fun i1 =>
        if (m.1 50 ((v0 + 1) + 1 + 2 * i1) 0) < v2 then
          some (.inl (some (.inl (3 : Int32)), m))
        else
          (r_Int_reachOfAll v0 v1 v2 m).bind fun z2 =>
          if z2.1 ≤ (z2.2.1 43 v0 0) then
            (ab_ix v1 4).bind fun i3 =>
            (r_Inc_isWrongSize ((v0 + 1) + 1 + 2 * i3) v2 v3 z2.2).bind fun z4 =>
            if z4.1 = 0 then
              some (.inl (some (.inl (0 : Int32)), z4.2))
            else
              some (.inl (some (.inl (4 : Int32)), z4.2))
          else
            some (.inl (some (.inl (3 : Int32)), z2.2))
      else
        some (.inl (some (.inl (2 : Int32)), m)) := rfl
noncomputable def r_Int_findFault : Nat → Int32 → Int32 → Int32 → Mm → Option (Int32 × Mm) := ab_seal fun v0 v1 v2 v3 m => ab_rI (b_Int_findFault_0 50000 v0 v1 v2 v3 m)
theorem r_Int_findFault_eq (v0 : Nat) (v1 : Int32) (v2 : Int32) (v3 : Int32) (m : Mm) : r_Int_findFault v0 v1 v2 v3 m = ab_rI (b_Int_findFault_0 50000 v0 v1 v2 v3 m) := by
  unfold r_Int_findFault
  rw [ab_seal_eq]
noncomputable def c_Int_findFault : List AV → Mm → Option (Int32 × Mm) := fun av m => match av with
  | [.inr (.inr (kv0, ov0)), .inl v1, .inl v2, .inl v3] => if kv0 = 13 then (ov0.bind fun v0 => r_Int_findFault v0 v1 v2 v3 m) else none
  | _ => none
theorem c_Int_findFault_inv {av : List AV} {m : Mm} {r : Int32 × Mm} (h : c_Int_findFault av m = some r) : ∃ (v0 : Nat) (v1 : Int32) (v2 : Int32) (v3 : Int32), av = [.inr (.inr (13, some v0)), .inl v1, .inl v2, .inl v3] ∧ r_Int_findFault v0 v1 v2 v3 m = some r := by
  unfold c_Int_findFault at h
  split at h
  · rename_i kv0 ov0 v1 v2 v3
    by_cases hkv0 : kv0 = 13
    case neg => rw [if_neg hkv0] at h; cases h
    rw [if_pos hkv0] at h
    subst hkv0
    obtain ⟨v0, hev0, h⟩ := Option.bind_eq_some_iff.mp h
    subst hev0
    exact ⟨v0, v1, v2, v3, rfl, h⟩
  · cases h
def cs_Int_findFault : List Nat := [27, 47]
set_option maxRecDepth 100000 in
theorem E_Int_findFault : ∀ (pc : Nat) (q : Ent), i_Int_findFault pc = some q → ab_E KT CL ab_gW "StreamTransport$Intake" "findFault" (some .int) prog_4_method_5_code s_Int_findFault 4 pc q.1 q.2.1 q.2.2.1 q.2.2.2.1 q.2.2.2.2 := fun pc q hq =>
  ab_Eb_ok lc_Int lj_Int fl_Int (fpn_Int "findFault") nw_Int na_Int nq_Int (ab_tab_all (t := t_Int_findFault) (chk := fun pc q => ab_Eb (some .int) prog_4_method_5_code s_Int_findFault 4 LC_Int LJ_Int FL_Int FPn_Int NW_Int NA_Int NQ_Int pc q.1 q.2.1 q.2.2.1 q.2.2.2.1 q.2.2.2.2) (by decide +kernel) hq)
set_option maxRecDepth 100000 in
theorem kp_Int_findFault {av : List AV} {m : Mm} {r : Int32 × Mm} (h : c_Int_findFault av m = some r) : ab_kp m r.2 := by
  obtain ⟨v0, v1, v2, v3, -, h⟩ := c_Int_findFault_inv h
  rw [r_Int_findFault_eq] at h
  have hV : ∀ a av m m', eV_Int_findFault a av m = some m' → ab_kp m m' := ab_ev_all (P := fun _ m r => ab_kp m r) [] (fun q hq => by cases hq)
  have hI : ∀ a av m q, eI_Int_findFault a av m = some q → ab_kp m q.2 := ab_ev_all (P := fun _ (m : Mm) (r : Int32 × Mm) => ab_kp m r.2) [(59, c_Int_reachOfAll), (50, c_Inc_isWrongSize)] (List.forall_mem_cons.mpr ⟨fun av m r h => kp_Int_reachOfAll h, List.forall_mem_cons.mpr ⟨fun av m r h => kp_Inc_isWrongSize h, fun q hq => by cases hq⟩⟩)
  exact ab_kprel (ρ := .inl (some (.inl r.1), r.2)) (ab_tab_isn (t := t_Int_findFault) (by decide +kernel)) hV hI (ab_rI_inv h)
set_option maxRecDepth 100000 in
theorem cl_Int_findFault (l : Launch) : ∀ (pc : Nat) (q : Ent), i_Int_findFault pc = some q → ab_inv q.1 = true → ab_CR l KT CL none ab_gW "StreamTransport$Intake" prog_4_method_5_code 4 2 45 eV_Int_findFault eI_Int_findFault pc q := by
  intro pc q hq hi
  have hm : pc ∈ cs_Int_findFault := ab_tab_cs (t := t_Int_findFault) (by decide +kernel) hq hi
  simp only [cs_Int_findFault, List.mem_cons, List.not_mem_nil, or_false] at hm
  rcases hm with rfl | rfl
  · cases (Option.some.inj hq : ((.invokevirtual 72, 59, 3, 1, 0) : Ent) = q)
    exact ab_crV (C := "StreamTransport$Intake") (by decide +kernel) cw_Int_reachOfAll (ab_gW_in 710 (by decide +kernel) rfl) is_Int_reachOfAll sl_Int_reachOfAll (by decide) (fun av m m' h => by cases h) (fun av m r h => cm_Int_reachOfAll l h) KT_nd
  · cases (Option.some.inj hq : ((.invokevirtual 76, 50, 3, 1, 0) : Ent) = q)
    exact ab_crV (C := "StreamTransport$Incoming") (by decide +kernel) cw_Inc_isWrongSize (ab_gW_in 715 (by decide +kernel) rfl) is_Inc_isWrongSize sl_Inc_isWrongSize (by decide) (fun av m m' h => by cases h) (fun av m r h => cm_Inc_isWrongSize l h) KT_nd
theorem cw_Int_findFault : ab_cw y_Int_findFault prog_4_method_5_code 4 3 (some .int) := ⟨ab_gW_in 709 (by decide +kernel) rfl, ab_gW_in 66 (by decide +kernel) rfl, by decide +kernel, by decide +kernel, by decide +kernel⟩
theorem is_Int_findFault : Cond.instanceMethod y_Int_findFault ∈ ab_gW := ab_gW_in 708 (by decide +kernel) rfl
theorem sl_Int_findFault : Cond.selects "StreamTransport$Intake" y_Int_findFault y_Int_findFault ∈ ab_gW := ab_gW_in 25 (by decide +kernel) rfl
set_option maxRecDepth 100000 in
theorem cm_Int_findFault (l : Launch) {av : List AV} {m : Mm} {r : Int32 × Mm} (h0 : c_Int_findFault av m = some r) : ∃ (k q : Nat) (av' : List AV) (ci : Nat) (fs : List (Nat × Nat × Nat × Nat)) (z : vw_C), av = .inr (.inr (k, some q)) :: av' ∧ av'.length = 3 ∧ k ≠ 0 ∧ KT[k]? = some (.inl (ci, fs)) ∧ CL[ci]? = some z ∧ z.1 = "StreamTransport$Intake" ∧ ab_nos av' ∧ ab_Met l KT CL y_Int_findFault (Cond.code y_Int_findFault prog_4_method_5_code 4 (some .int) :: ab_gW) 2 45 none av m (some (.inl r.1)) r.2 := by
  obtain ⟨v0, v1, v2, v3, hav, h⟩ := c_Int_findFault_inv h0
  rw [r_Int_findFault_eq] at h
  have hmo : ab_mo m r.2 := ab_kp_mo (kp_Int_findFault h0)
  subst hav
  exact ⟨_, _, _, _, _, _, rfl, rfl, by decide, rfl, rfl, rfl, (by intro v hv q e; subst e; simp at hv), ab_met (by decide +kernel) KT_0 KT_nd KT_k3 E_Int_findFault (cl_Int_findFault l) hmo (Nat.le_of_ble_eq_true rfl) (ab_rI_inv h) (fun v hv => by cases hv; exact ⟨_, rfl⟩)⟩
/-! StreamTransport$Intake.takeData(LStreamTransport$Reader;)I -/
def y_Int_takeData : MethodName := ⟨"StreamTransport$Intake", "takeData", "(LStreamTransport$Reader;)I"⟩
def t_Int_takeData (pc : Nat) : Option Ent :=
  bif Nat.blt pc 51 then
    (bif Nat.blt pc 23 then
      (bif Nat.blt pc 12 then
        (bif Nat.blt pc 6 then
          (bif Nat.blt pc 4 then
            (bif Nat.blt pc 1 then
              (bif Nat.beq pc 0 then some (.aload_n 1, 1, 0, 0, 0) else none)
            else
              bif Nat.beq pc 1 then some (.getfield 44, 6, 0, 1, 0) else none)
          else
            bif Nat.blt pc 5 then
              (bif Nat.beq pc 4 then some (.iconst 0, 0, 0, 0, 0) else none)
            else
              bif Nat.beq pc 5 then some (.iaload, 0, 0, 0, 0) else none)
        else
          bif Nat.blt pc 8 then
            (bif Nat.blt pc 7 then
              (bif Nat.beq pc 6 then some (.istore_n 2, 2, 0, 0, 0) else none)
            else
              bif Nat.beq pc 7 then some (.aload_n 1, 1, 0, 0, 0) else none)
          else
            bif Nat.blt pc 11 then
              (bif Nat.beq pc 8 then some (.getfield 44, 6, 0, 1, 0) else none)
            else
              bif Nat.beq pc 11 then some (.iconst 2, 0, 0, 0, 2) else none)
      else
        bif Nat.blt pc 16 then
          (bif Nat.blt pc 14 then
            (bif Nat.blt pc 13 then
              (bif Nat.beq pc 12 then some (.iaload, 0, 0, 0, 0) else none)
            else
              bif Nat.beq pc 13 then some (.iconst 2, 0, 0, 0, 2) else none)
          else
            bif Nat.blt pc 15 then
              (bif Nat.beq pc 14 then some (.idiv, 0, 0, 0, 0) else none)
            else
              bif Nat.beq pc 15 then some (.istore_n 3, 3, 0, 0, 0) else none)
        else
          bif Nat.blt pc 20 then
            (bif Nat.blt pc 17 then
              (bif Nat.beq pc 16 then some (.aload_n 1, 1, 0, 0, 0) else none)
            else
              bif Nat.beq pc 17 then some (.getfield 44, 6, 0, 1, 0) else none)
          else
            bif Nat.blt pc 21 then
              (bif Nat.beq pc 20 then some (.iconst 2, 0, 0, 0, 2) else none)
            else
              bif Nat.blt pc 22 then
                (bif Nat.beq pc 21 then some (.iaload, 0, 0, 0, 0) else none)
              else
                bif Nat.beq pc 22 then some (.iconst 2, 0, 0, 0, 2) else none)
    else
      bif Nat.blt pc 39 then
        (bif Nat.blt pc 29 then
          (bif Nat.blt pc 25 then
            (bif Nat.blt pc 24 then
              (bif Nat.beq pc 23 then some (.irem, 0, 0, 0, 0) else none)
            else
              bif Nat.beq pc 24 then some (.iconst 1, 0, 0, 0, 1) else none)
          else
            bif Nat.blt pc 28 then
              (bif Nat.beq pc 25 then some (.if_icmp .ne (7), 32, 0, 0, 0) else none)
            else
              bif Nat.beq pc 28 then some (.iconst 1, 0, 0, 0, 1) else none)
        else
          bif Nat.blt pc 33 then
            (bif Nat.blt pc 32 then
              (bif Nat.beq pc 29 then some (.goto 4, 33, 0, 0, 0) else none)
            else
              bif Nat.beq pc 32 then some (.iconst 0, 0, 0, 0, 0) else none)
          else
            bif Nat.blt pc 35 then
              (bif Nat.beq pc 33 then some (.istore 4, 4, 0, 0, 0) else none)
            else
              bif Nat.blt pc 36 then
                (bif Nat.beq pc 35 then some (.aload_n 1, 1, 0, 0, 0) else none)
              else
                bif Nat.beq pc 36 then some (.getfield 44, 6, 0, 1, 0) else none)
      else
        bif Nat.blt pc 44 then
          (bif Nat.blt pc 41 then
            (bif Nat.blt pc 40 then
              (bif Nat.beq pc 39 then some (.iconst 1, 0, 0, 0, 1) else none)
            else
              bif Nat.beq pc 40 then some (.iaload, 0, 0, 0, 0) else none)
          else
            bif Nat.blt pc 43 then
              (bif Nat.beq pc 41 then some (.istore 5, 5, 0, 0, 0) else none)
            else
              bif Nat.beq pc 43 then some (.aload_n 0, 0, 0, 0, 0) else none)
        else
          bif Nat.blt pc 47 then
            (bif Nat.blt pc 45 then
              (bif Nat.beq pc 44 then some (.iload_n 2, 2, 0, 0, 0) else none)
            else
              bif Nat.beq pc 45 then some (.iload 5, 5, 0, 0, 0) else none)
          else
            bif Nat.blt pc 48 then
              (bif Nat.beq pc 47 then some (.iload_n 3, 3, 0, 0, 0) else none)
            else
              bif Nat.blt pc 49 then
                (bif Nat.beq pc 48 then some (.iadd, 0, 0, 0, 0) else none)
              else
                bif Nat.beq pc 49 then some (.iload 4, 4, 0, 0, 0) else none)
  else
    bif Nat.blt pc 83 then
      (bif Nat.blt pc 67 then
        (bif Nat.blt pc 61 then
          (bif Nat.blt pc 56 then
            (bif Nat.blt pc 54 then
              (bif Nat.beq pc 51 then some (.invokevirtual 49, 60, 4, 1, 0) else none)
            else
              bif Nat.beq pc 54 then some (.istore 6, 6, 0, 0, 0) else none)
          else
            bif Nat.blt pc 58 then
              (bif Nat.beq pc 56 then some (.iload 6, 6, 0, 0, 0) else none)
            else
              bif Nat.beq pc 58 then some (.ifCond .eq (6), 64, 0, 0, 0) else none)
        else
          bif Nat.blt pc 64 then
            (bif Nat.blt pc 63 then
              (bif Nat.beq pc 61 then some (.iload 6, 6, 0, 0, 0) else none)
            else
              bif Nat.beq pc 63 then some (.ireturn, 0, 0, 0, 0) else none)
          else
            bif Nat.blt pc 65 then
              (bif Nat.beq pc 64 then some (.iconst 0, 0, 0, 0, 0) else none)
            else
              bif Nat.beq pc 65 then some (.istore 7, 7, 0, 0, 0) else none)
      else
        bif Nat.blt pc 74 then
          (bif Nat.blt pc 70 then
            (bif Nat.blt pc 69 then
              (bif Nat.beq pc 67 then some (.iload 7, 7, 0, 0, 0) else none)
            else
              bif Nat.beq pc 69 then some (.iload_n 3, 3, 0, 0, 0) else none)
          else
            bif Nat.blt pc 73 then
              (bif Nat.beq pc 70 then some (.if_icmp .ge (29), 99, 0, 0, 0) else none)
            else
              bif Nat.beq pc 73 then some (.aload_n 0, 0, 0, 0, 0) else none)
        else
          bif Nat.blt pc 78 then
            (bif Nat.blt pc 77 then
              (bif Nat.beq pc 74 then some (.getfield 11, 2, 0, 1, 0) else none)
            else
              bif Nat.beq pc 77 then some (.iload_n 2, 2, 0, 0, 0) else none)
          else
            bif Nat.blt pc 79 then
              (bif Nat.beq pc 78 then some (.aaload, 0, 0, 0, 0) else none)
            else
              bif Nat.blt pc 81 then
                (bif Nat.beq pc 79 then some (.iload 5, 5, 0, 0, 0) else none)
              else
                bif Nat.beq pc 81 then some (.iload 7, 7, 0, 0, 0) else none)
    else
      bif Nat.blt pc 103 then
        (bif Nat.blt pc 90 then
          (bif Nat.blt pc 85 then
            (bif Nat.blt pc 84 then
              (bif Nat.beq pc 83 then some (.iadd, 0, 0, 0, 0) else none)
            else
              bif Nat.beq pc 84 then some (.aload_n 1, 1, 0, 0, 0) else none)
          else
            bif Nat.blt pc 87 then
              (bif Nat.beq pc 85 then some (.iload 7, 7, 0, 0, 0) else none)
            else
              bif Nat.beq pc 87 then some (.invokevirtual 53, 29, 2, 1, 0) else none)
        else
          bif Nat.blt pc 96 then
            (bif Nat.blt pc 93 then
              (bif Nat.beq pc 90 then some (.invokevirtual 57, 52, 3, 0, 0) else none)
            else
              bif Nat.beq pc 93 then some (.iinc 7 1, 7, 0, 0, 1) else none)
          else
            bif Nat.blt pc 99 then
              (bif Nat.beq pc 96 then some (.goto (-29), 67, 0, 0, 0) else none)
            else
              bif Nat.blt pc 100 then
                (bif Nat.beq pc 99 then some (.aload_n 0, 0, 0, 0, 0) else none)
              else
                bif Nat.beq pc 100 then some (.getfield 11, 2, 0, 1, 0) else none)
      else
        bif Nat.blt pc 108 then
          (bif Nat.blt pc 105 then
            (bif Nat.blt pc 104 then
              (bif Nat.beq pc 103 then some (.iload_n 2, 2, 0, 0, 0) else none)
            else
              bif Nat.beq pc 104 then some (.aaload, 0, 0, 0, 0) else none)
          else
            bif Nat.blt pc 107 then
              (bif Nat.beq pc 105 then some (.iload 5, 5, 0, 0, 0) else none)
            else
              bif Nat.beq pc 107 then some (.iload_n 3, 3, 0, 0, 0) else none)
        else
          bif Nat.blt pc 111 then
            (bif Nat.blt pc 109 then
              (bif Nat.beq pc 108 then some (.iadd, 0, 0, 0, 0) else none)
            else
              bif Nat.beq pc 109 then some (.iload 4, 4, 0, 0, 0) else none)
          else
            bif Nat.blt pc 114 then
              (bif Nat.beq pc 111 then some (.invokevirtual 61, 51, 3, 0, 0) else none)
            else
              bif Nat.blt pc 115 then
                (bif Nat.beq pc 114 then some (.iconst 0, 0, 0, 0, 0) else none)
              else
                bif Nat.beq pc 115 then some (.ireturn, 0, 0, 0, 0) else none
def i_Int_takeData : Nat → Option Ent := ab_tab 116 t_Int_takeData
def h_Int_takeData (pc : Nat) : Nat × List Bool := bif Nat.beq pc 33 then (1, [true, true, true, true, false, false, false, false]) else bif Nat.beq pc 67 then (1, [true, true, true, true, true, true, false, true]) else (0, [])
def s_Int_takeData (pc : Nat) : List (Int32 × Nat) × Nat := ([], 0)
noncomputable def eV_Int_takeData : Nat → List AV → Mm → Option Mm := ab_ev [(52, c_Inc_keep), (51, c_Inc_reachTo)]
noncomputable def eI_Int_takeData : Nat → List AV → Mm → Option (Int32 × Mm) := ab_ev [(60, c_Int_findFault), (29, c_Rdr_dataAt)]
noncomputable def b_Int_takeData_0 (f : Nat) (v0 : Nat) (v1 : Nat) (m : Mm) : Option Rs := ab_ex KT none s_Int_takeData eV_Int_takeData eI_Int_takeData i_Int_takeData h_Int_takeData f 0 [some (.inr (.inr (13, some v0))), some (.inr (.inr (10, some v1))), none, none, none, none, none, none] [] m
noncomputable def b_Int_takeData_33 (f : Nat) (v0 : Nat) (v1 : Nat) (v2 : Int32) (v3 : Int32) (u0 : Int32) (m : Mm) : Option Rs := ab_ex KT none s_Int_takeData eV_Int_takeData eI_Int_takeData i_Int_takeData h_Int_takeData f 33 [some (.inr (.inr (13, some v0))), some (.inr (.inr (10, some v1))), some (.inl v2), some (.inl v3), none, none, none, none] [.inl u0] m
noncomputable def b_Int_takeData_67 (f : Nat) (v0 : Nat) (v1 : Nat) (v2 : Int32) (v3 : Int32) (v4 : Int32) (v5 : Int32) (v7 : Int32) (m : Mm) : Option Rs := ab_ex KT none s_Int_takeData eV_Int_takeData eI_Int_takeData i_Int_takeData h_Int_takeData f 67 [some (.inr (.inr (13, some v0))), some (.inr (.inr (10, some v1))), some (.inl v2), some (.inl v3), some (.inl v4), some (.inl v5), none, some (.inl v7)] [] m
set_option maxRecDepth 100000 in
set_option maxHeartbeats 4000000 in
theorem b_Int_takeData_0_eq (f : Nat) (v0 : Nat) (v1 : Nat) (m : Mm) : b_Int_takeData_0 (f + 1) v0 v1 m =
    (ab_ix (0 : Int32) 7).bind fun i1 =>
    ab_let ((m.1 38 (v1 + 1) i1)) fun x2 =>
    (ab_ix (2 : Int32) 7).bind fun i3 =>
    if (2 : Int32) = 0 then none else
    ab_let (((m.1 38 (v1 + 1) i3) / (2 : Int32))) fun x4 =>
    (ab_ix (2 : Int32) 7).bind fun i5 =>
    if (2 : Int32) = 0 then none else
    if ((m.1 38 (v1 + 1) i5) - (m.1 38 (v1 + 1) i5) / (2 : Int32) * (2 : Int32)) = (1 : Int32) then
      b_Int_takeData_33 f v0 v1 x2 x4 (1 : Int32) m
    else
      b_Int_takeData_33 f v0 v1 x2 x4 (0 : Int32) m := rfl
set_option maxRecDepth 100000 in
set_option maxHeartbeats 4000000 in
theorem b_Int_takeData_33_eq (f : Nat) (v0 : Nat) (v1 : Nat) (v2 : Int32) (v3 : Int32) (u0 : Int32) (m : Mm) : b_Int_takeData_33 (f + 1) v0 v1 v2 v3 u0 m =
    (ab_ix (1 : Int32) 7).bind fun i1 =>
    ab_let ((m.1 38 (v1 + 1) i1)) fun x2 =>
    (r_Int_findFault v0 v2 (x2 + v3) u0 m).bind fun z3 =>
    if z3.1 = 0 then
      b_Int_takeData_67 f v0 v1 v2 v3 u0 x2 (0 : Int32) z3.2
    else
      some (.inl (some (.inl z3.1), z3.2)) := rfl
set_option maxRecDepth 100000 in
set_option maxHeartbeats 4000000 in
theorem b_Int_takeData_67_eq (f : Nat) (v0 : Nat) (v1 : Nat) (v2 : Int32) (v3 : Int32) (v4 : Int32) (v5 : Int32) (v7 : Int32) (m : Mm) : b_Int_takeData_67 (f + 1) v0 v1 v2 v3 v4 v5 v7 m =
    if v3 ≤ v7 then
      (ab_ix v2 4).bind fun i1 =>
      (r_Inc_reachTo ((v0 + 1) + 1 + 2 * i1) (v5 + v3) v4 m).bind fun m2 =>
      some (.inl (some (.inl (0 : Int32)), m2))
    else
      (ab_ix v2 4).bind fun i3 =>
      (r_Rdr_dataAt v1 v7 m).bind fun z4 =>
      (r_Inc_keep ((v0 + 1) + 1 + 2 * i3) (v5 + v7) z4.1 z4.2).bind fun m5 =>
      ab_let (v7 + (1 : Int32)) fun x6 =>
      b_Int_takeData_67 f v0 v1 v2 v3 v4 v5 x6 m5 := rfl
noncomputable def r_Int_takeData : Nat → Nat → Mm → Option (Int32 × Mm) := ab_seal fun v0 v1 m => ab_rI (b_Int_takeData_0 50000 v0 v1 m)
theorem r_Int_takeData_eq (v0 : Nat) (v1 : Nat) (m : Mm) : r_Int_takeData v0 v1 m = ab_rI (b_Int_takeData_0 50000 v0 v1 m) := by
  unfold r_Int_takeData
  rw [ab_seal_eq]
noncomputable def c_Int_takeData : List AV → Mm → Option (Int32 × Mm) := fun av m => match av with
  | [.inr (.inr (kv0, ov0)), .inr (.inr (kv1, ov1))] => if kv0 = 13 then (if kv1 = 10 then (ov0.bind fun v0 => ov1.bind fun v1 => r_Int_takeData v0 v1 m) else none) else none
  | _ => none
theorem c_Int_takeData_inv {av : List AV} {m : Mm} {r : Int32 × Mm} (h : c_Int_takeData av m = some r) : ∃ (v0 : Nat) (v1 : Nat), av = [.inr (.inr (13, some v0)), .inr (.inr (10, some v1))] ∧ r_Int_takeData v0 v1 m = some r := by
  unfold c_Int_takeData at h
  split at h
  · rename_i kv0 ov0 kv1 ov1
    by_cases hkv0 : kv0 = 13
    case neg => rw [if_neg hkv0] at h; cases h
    rw [if_pos hkv0] at h
    subst hkv0
    by_cases hkv1 : kv1 = 10
    case neg => rw [if_neg hkv1] at h; cases h
    rw [if_pos hkv1] at h
    subst hkv1
    obtain ⟨v0, hev0, h⟩ := Option.bind_eq_some_iff.mp h
    obtain ⟨v1, hev1, h⟩ := Option.bind_eq_some_iff.mp h
    subst hev0
    subst hev1
    exact ⟨v0, v1, rfl, h⟩
  · cases h
def cs_Int_takeData : List Nat := [51, 87, 90, 111]
set_option maxRecDepth 100000 in
theorem E_Int_takeData : ∀ (pc : Nat) (q : Ent), i_Int_takeData pc = some q → ab_E KT CL ab_gW "StreamTransport$Intake" "takeData" (some .int) prog_4_method_3_code s_Int_takeData 8 pc q.1 q.2.1 q.2.2.1 q.2.2.2.1 q.2.2.2.2 := fun pc q hq =>
  ab_Eb_ok lc_Int lj_Int fl_Int (fpn_Int "takeData") nw_Int na_Int nq_Int (ab_tab_all (t := t_Int_takeData) (chk := fun pc q => ab_Eb (some .int) prog_4_method_3_code s_Int_takeData 8 LC_Int LJ_Int FL_Int FPn_Int NW_Int NA_Int NQ_Int pc q.1 q.2.1 q.2.2.1 q.2.2.2.1 q.2.2.2.2) (by decide +kernel) hq)
set_option maxRecDepth 100000 in
theorem kp_Int_takeData {av : List AV} {m : Mm} {r : Int32 × Mm} (h : c_Int_takeData av m = some r) : ab_kp m r.2 := by
  obtain ⟨v0, v1, -, h⟩ := c_Int_takeData_inv h
  rw [r_Int_takeData_eq] at h
  have hV : ∀ a av m m', eV_Int_takeData a av m = some m' → ab_kp m m' := ab_ev_all (P := fun _ m r => ab_kp m r) [(52, c_Inc_keep), (51, c_Inc_reachTo)] (List.forall_mem_cons.mpr ⟨fun av m r h => kp_Inc_keep h, List.forall_mem_cons.mpr ⟨fun av m r h => kp_Inc_reachTo h, fun q hq => by cases hq⟩⟩)
  have hI : ∀ a av m q, eI_Int_takeData a av m = some q → ab_kp m q.2 := ab_ev_all (P := fun _ (m : Mm) (r : Int32 × Mm) => ab_kp m r.2) [(60, c_Int_findFault), (29, c_Rdr_dataAt)] (List.forall_mem_cons.mpr ⟨fun av m r h => kp_Int_findFault h, List.forall_mem_cons.mpr ⟨fun av m r h => kp_Rdr_dataAt h, fun q hq => by cases hq⟩⟩)
  exact ab_kprel (ρ := .inl (some (.inl r.1), r.2)) (ab_tab_isn (t := t_Int_takeData) (by decide +kernel)) hV hI (ab_rI_inv h)
set_option maxRecDepth 100000 in
theorem cl_Int_takeData (l : Launch) : ∀ (pc : Nat) (q : Ent), i_Int_takeData pc = some q → ab_inv q.1 = true → ab_CR l KT CL none ab_gW "StreamTransport$Intake" prog_4_method_3_code 8 3 68 eV_Int_takeData eI_Int_takeData pc q := by
  intro pc q hq hi
  have hm : pc ∈ cs_Int_takeData := ab_tab_cs (t := t_Int_takeData) (by decide +kernel) hq hi
  simp only [cs_Int_takeData, List.mem_cons, List.not_mem_nil, or_false] at hm
  rcases hm with rfl | rfl | rfl | rfl
  · cases (Option.some.inj hq : ((.invokevirtual 49, 60, 4, 1, 0) : Ent) = q)
    exact ab_crV (C := "StreamTransport$Intake") (by decide +kernel) cw_Int_findFault (ab_gW_in 706 (by decide +kernel) rfl) is_Int_findFault sl_Int_findFault (by decide) (fun av m m' h => by cases h) (fun av m r h => cm_Int_findFault l h) KT_nd
  · cases (Option.some.inj hq : ((.invokevirtual 53, 29, 2, 1, 0) : Ent) = q)
    exact ab_crV (C := "StreamTransport$Reader") (by decide +kernel) cw_Rdr_dataAt (ab_gW_in 719 (by decide +kernel) rfl) is_Rdr_dataAt sl_Rdr_dataAt (by decide) (fun av m m' h => by cases h) (fun av m r h => cm_Rdr_dataAt l h) KT_nd
  · cases (Option.some.inj hq : ((.invokevirtual 57, 52, 3, 0, 0) : Ent) = q)
    exact ab_crV (C := "StreamTransport$Incoming") (by decide +kernel) cw_Inc_keep (ab_gW_in 723 (by decide +kernel) rfl) is_Inc_keep sl_Inc_keep (by decide) (fun av m m' h => cm_Inc_keep l h) (fun av m r h => by cases h) KT_nd
  · cases (Option.some.inj hq : ((.invokevirtual 61, 51, 3, 0, 0) : Ent) = q)
    exact ab_crV (C := "StreamTransport$Incoming") (by decide +kernel) cw_Inc_reachTo (ab_gW_in 727 (by decide +kernel) rfl) is_Inc_reachTo sl_Inc_reachTo (by decide) (fun av m m' h => cm_Inc_reachTo l h) (fun av m r h => by cases h) KT_nd
theorem cw_Int_takeData : ab_cw y_Int_takeData prog_4_method_3_code 8 1 (some .int) := ⟨ab_gW_in 705 (by decide +kernel) rfl, ab_gW_in 66 (by decide +kernel) rfl, by decide +kernel, by decide +kernel, by decide +kernel⟩
theorem is_Int_takeData : Cond.instanceMethod y_Int_takeData ∈ ab_gW := ab_gW_in 703 (by decide +kernel) rfl
theorem sl_Int_takeData : Cond.selects "StreamTransport$Intake" y_Int_takeData y_Int_takeData ∈ ab_gW := ab_gW_in 704 (by decide +kernel) rfl
set_option maxRecDepth 100000 in
theorem cm_Int_takeData (l : Launch) {av : List AV} {m : Mm} {r : Int32 × Mm} (h0 : c_Int_takeData av m = some r) : ∃ (k q : Nat) (av' : List AV) (ci : Nat) (fs : List (Nat × Nat × Nat × Nat)) (z : vw_C), av = .inr (.inr (k, some q)) :: av' ∧ av'.length = 1 ∧ k ≠ 0 ∧ KT[k]? = some (.inl (ci, fs)) ∧ CL[ci]? = some z ∧ z.1 = "StreamTransport$Intake" ∧ ab_nos av' ∧ ab_Met l KT CL y_Int_takeData (Cond.code y_Int_takeData prog_4_method_3_code 8 (some .int) :: ab_gW) 3 68 none av m (some (.inl r.1)) r.2 := by
  obtain ⟨v0, v1, hav, h⟩ := c_Int_takeData_inv h0
  rw [r_Int_takeData_eq] at h
  have hmo : ab_mo m r.2 := ab_kp_mo (kp_Int_takeData h0)
  subst hav
  exact ⟨_, _, _, _, _, _, rfl, rfl, by decide, rfl, rfl, rfl, (by intro v hv q e; subst e; simp at hv), ab_met (by decide +kernel) KT_0 KT_nd KT_k3 E_Int_takeData (cl_Int_takeData l) hmo (Nat.le_of_ble_eq_true rfl) (ab_rI_inv h) (fun v hv => by cases hv; exact ⟨_, rfl⟩)⟩
/-! StreamTransport$Intake.takeReset(II)I -/
def y_Int_takeReset : MethodName := ⟨"StreamTransport$Intake", "takeReset", "(II)I"⟩
def t_Int_takeReset (pc : Nat) : Option Ent :=
  bif Nat.blt pc 19 then
    (bif Nat.blt pc 8 then
      (bif Nat.blt pc 3 then
        (bif Nat.blt pc 1 then
          (bif Nat.beq pc 0 then some (.aload_n 0, 0, 0, 0, 0) else none)
        else
          bif Nat.blt pc 2 then
            (bif Nat.beq pc 1 then some (.iload_n 1, 1, 0, 0, 0) else none)
          else
            bif Nat.beq pc 2 then some (.iload_n 2, 2, 0, 0, 0) else none)
      else
        bif Nat.blt pc 4 then
          (bif Nat.beq pc 3 then some (.iconst 1, 0, 0, 0, 1) else none)
        else
          bif Nat.blt pc 7 then
            (bif Nat.beq pc 4 then some (.invokevirtual 49, 60, 4, 1, 0) else none)
          else
            bif Nat.beq pc 7 then some (.istore_n 3, 3, 0, 0, 0) else none)
    else
      bif Nat.blt pc 13 then
        (bif Nat.blt pc 9 then
          (bif Nat.beq pc 8 then some (.iload_n 3, 3, 0, 0, 0) else none)
        else
          bif Nat.blt pc 12 then
            (bif Nat.beq pc 9 then some (.ifCond .eq (5), 14, 0, 0, 0) else none)
          else
            bif Nat.beq pc 12 then some (.iload_n 3, 3, 0, 0, 0) else none)
      else
        bif Nat.blt pc 15 then
          (bif Nat.blt pc 14 then
            (bif Nat.beq pc 13 then some (.ireturn, 0, 0, 0, 0) else none)
          else
            bif Nat.beq pc 14 then some (.aload_n 0, 0, 0, 0, 0) else none)
        else
          bif Nat.blt pc 18 then
            (bif Nat.beq pc 15 then some (.getfield 11, 2, 0, 1, 0) else none)
          else
            bif Nat.beq pc 18 then some (.iload_n 1, 1, 0, 0, 0) else none)
  else
    bif Nat.blt pc 30 then
      (bif Nat.blt pc 22 then
        (bif Nat.blt pc 20 then
          (bif Nat.beq pc 19 then some (.aaload, 0, 0, 0, 0) else none)
        else
          bif Nat.blt pc 21 then
            (bif Nat.beq pc 20 then some (.iload_n 2, 2, 0, 0, 0) else none)
          else
            bif Nat.beq pc 21 then some (.iconst 1, 0, 0, 0, 1) else none)
      else
        bif Nat.blt pc 26 then
          (bif Nat.blt pc 25 then
            (bif Nat.beq pc 22 then some (.invokevirtual 61, 51, 3, 0, 0) else none)
          else
            bif Nat.beq pc 25 then some (.aload_n 0, 0, 0, 0, 0) else none)
        else
          bif Nat.blt pc 29 then
            (bif Nat.beq pc 26 then some (.getfield 11, 2, 0, 1, 0) else none)
          else
            bif Nat.beq pc 29 then some (.iload_n 1, 1, 0, 0, 0) else none)
    else
      bif Nat.blt pc 35 then
        (bif Nat.blt pc 31 then
          (bif Nat.beq pc 30 then some (.aaload, 0, 0, 0, 0) else none)
        else
          bif Nat.blt pc 32 then
            (bif Nat.beq pc 31 then some (.iconst 1, 0, 0, 0, 1) else none)
          else
            bif Nat.beq pc 32 then some (.putfield 65, 1, 5, 0, 0) else none)
      else
        bif Nat.blt pc 39 then
          (bif Nat.blt pc 36 then
            (bif Nat.beq pc 35 then some (.aload_n 0, 0, 0, 0, 0) else none)
          else
            bif Nat.beq pc 36 then some (.invokevirtual 41, 57, 1, 0, 0) else none)
        else
          bif Nat.blt pc 40 then
            (bif Nat.beq pc 39 then some (.iconst 0, 0, 0, 0, 0) else none)
          else
            bif Nat.beq pc 40 then some (.ireturn, 0, 0, 0, 0) else none
def i_Int_takeReset : Nat → Option Ent := ab_tab 41 t_Int_takeReset
def h_Int_takeReset (pc : Nat) : Nat × List Bool := (0, [])
def s_Int_takeReset (pc : Nat) : List (Int32 × Nat) × Nat := ([], 0)
noncomputable def eV_Int_takeReset : Nat → List AV → Mm → Option Mm := ab_ev [(51, c_Inc_reachTo), (57, c_Int_lookAtLimitAll)]
noncomputable def eI_Int_takeReset : Nat → List AV → Mm → Option (Int32 × Mm) := ab_ev [(60, c_Int_findFault)]
noncomputable def b_Int_takeReset_0 (f : Nat) (v0 : Nat) (v1 : Int32) (v2 : Int32) (m : Mm) : Option Rs := ab_ex KT none s_Int_takeReset eV_Int_takeReset eI_Int_takeReset i_Int_takeReset h_Int_takeReset f 0 [some (.inr (.inr (13, some v0))), some (.inl v1), some (.inl v2), none] [] m
set_option maxRecDepth 100000 in
set_option maxHeartbeats 4000000 in
theorem b_Int_takeReset_0_eq (f : Nat) (v0 : Nat) (v1 : Int32) (v2 : Int32) (m : Mm) : b_Int_takeReset_0 (f + 1) v0 v1 v2 m =
    (r_Int_findFault v0 v1 v2 (1 : Int32) m).bind fun z1 =>
    if z1.1 = 0 then
      (ab_ix v1 4).bind fun i2 =>
      (r_Inc_reachTo ((v0 + 1) + 1 + 2 * i2) v2 (1 : Int32) z1.2).bind fun m3 =>
      (ab_ix v1 4).bind fun i4 =>
      (ab_bo (1 : Int32)).bind fun y6 =>
      ab_let (ab_uI m3 51 ((v0 + 1) + 1 + 2 * i4) 0 y6) fun m5 =>
      (r_Int_lookAtLimitAll v0 m5).bind fun m7 =>
      some (.inl (some (.inl (0 : Int32)), m7))
    else
      some (.inl (some (.inl z1.1), z1.2)) := rfl
noncomputable def r_Int_takeReset : Nat → Int32 → Int32 → Mm → Option (Int32 × Mm) := ab_seal fun v0 v1 v2 m => ab_rI (b_Int_takeReset_0 50000 v0 v1 v2 m)
theorem r_Int_takeReset_eq (v0 : Nat) (v1 : Int32) (v2 : Int32) (m : Mm) : r_Int_takeReset v0 v1 v2 m = ab_rI (b_Int_takeReset_0 50000 v0 v1 v2 m) := by
  unfold r_Int_takeReset
  rw [ab_seal_eq]
noncomputable def c_Int_takeReset : List AV → Mm → Option (Int32 × Mm) := fun av m => match av with
  | [.inr (.inr (kv0, ov0)), .inl v1, .inl v2] => if kv0 = 13 then (ov0.bind fun v0 => r_Int_takeReset v0 v1 v2 m) else none
  | _ => none
theorem c_Int_takeReset_inv {av : List AV} {m : Mm} {r : Int32 × Mm} (h : c_Int_takeReset av m = some r) : ∃ (v0 : Nat) (v1 : Int32) (v2 : Int32), av = [.inr (.inr (13, some v0)), .inl v1, .inl v2] ∧ r_Int_takeReset v0 v1 v2 m = some r := by
  unfold c_Int_takeReset at h
  split at h
  · rename_i kv0 ov0 v1 v2
    by_cases hkv0 : kv0 = 13
    case neg => rw [if_neg hkv0] at h; cases h
    rw [if_pos hkv0] at h
    subst hkv0
    obtain ⟨v0, hev0, h⟩ := Option.bind_eq_some_iff.mp h
    subst hev0
    exact ⟨v0, v1, v2, rfl, h⟩
  · cases h
def cs_Int_takeReset : List Nat := [4, 22, 36]
set_option maxRecDepth 100000 in
theorem E_Int_takeReset : ∀ (pc : Nat) (q : Ent), i_Int_takeReset pc = some q → ab_E KT CL ab_gW "StreamTransport$Intake" "takeReset" (some .int) prog_4_method_4_code s_Int_takeReset 4 pc q.1 q.2.1 q.2.2.1 q.2.2.2.1 q.2.2.2.2 := fun pc q hq =>
  ab_Eb_ok lc_Int lj_Int fl_Int (fpn_Int "takeReset") nw_Int na_Int nq_Int (ab_tab_all (t := t_Int_takeReset) (chk := fun pc q => ab_Eb (some .int) prog_4_method_4_code s_Int_takeReset 4 LC_Int LJ_Int FL_Int FPn_Int NW_Int NA_Int NQ_Int pc q.1 q.2.1 q.2.2.1 q.2.2.2.1 q.2.2.2.2) (by decide +kernel) hq)
set_option maxRecDepth 100000 in
theorem kp_Int_takeReset {av : List AV} {m : Mm} {r : Int32 × Mm} (h : c_Int_takeReset av m = some r) : ab_kp m r.2 := by
  obtain ⟨v0, v1, v2, -, h⟩ := c_Int_takeReset_inv h
  rw [r_Int_takeReset_eq] at h
  have hV : ∀ a av m m', eV_Int_takeReset a av m = some m' → ab_kp m m' := ab_ev_all (P := fun _ m r => ab_kp m r) [(51, c_Inc_reachTo), (57, c_Int_lookAtLimitAll)] (List.forall_mem_cons.mpr ⟨fun av m r h => kp_Inc_reachTo h, List.forall_mem_cons.mpr ⟨fun av m r h => kp_Int_lookAtLimitAll h, fun q hq => by cases hq⟩⟩)
  have hI : ∀ a av m q, eI_Int_takeReset a av m = some q → ab_kp m q.2 := ab_ev_all (P := fun _ (m : Mm) (r : Int32 × Mm) => ab_kp m r.2) [(60, c_Int_findFault)] (List.forall_mem_cons.mpr ⟨fun av m r h => kp_Int_findFault h, fun q hq => by cases hq⟩)
  exact ab_kprel (ρ := .inl (some (.inl r.1), r.2)) (ab_tab_isn (t := t_Int_takeReset) (by decide +kernel)) hV hI (ab_rI_inv h)
set_option maxRecDepth 100000 in
theorem cl_Int_takeReset (l : Launch) : ∀ (pc : Nat) (q : Ent), i_Int_takeReset pc = some q → ab_inv q.1 = true → ab_CR l KT CL none ab_gW "StreamTransport$Intake" prog_4_method_4_code 4 3 68 eV_Int_takeReset eI_Int_takeReset pc q := by
  intro pc q hq hi
  have hm : pc ∈ cs_Int_takeReset := ab_tab_cs (t := t_Int_takeReset) (by decide +kernel) hq hi
  simp only [cs_Int_takeReset, List.mem_cons, List.not_mem_nil, or_false] at hm
  rcases hm with rfl | rfl | rfl
  · cases (Option.some.inj hq : ((.invokevirtual 49, 60, 4, 1, 0) : Ent) = q)
    exact ab_crV (C := "StreamTransport$Intake") (by decide +kernel) cw_Int_findFault (ab_gW_in 706 (by decide +kernel) rfl) is_Int_findFault sl_Int_findFault (by decide) (fun av m m' h => by cases h) (fun av m r h => cm_Int_findFault l h) KT_nd
  · cases (Option.some.inj hq : ((.invokevirtual 61, 51, 3, 0, 0) : Ent) = q)
    exact ab_crV (C := "StreamTransport$Incoming") (by decide +kernel) cw_Inc_reachTo (ab_gW_in 727 (by decide +kernel) rfl) is_Inc_reachTo sl_Inc_reachTo (by decide) (fun av m m' h => cm_Inc_reachTo l h) (fun av m r h => by cases h) KT_nd
  · cases (Option.some.inj hq : ((.invokevirtual 41, 57, 1, 0, 0) : Ent) = q)
    exact ab_crV (C := "StreamTransport$Intake") (by decide +kernel) cw_Int_lookAtLimitAll (ab_gW_in 736 (by decide +kernel) rfl) is_Int_lookAtLimitAll sl_Int_lookAtLimitAll (by decide) (fun av m m' h => cm_Int_lookAtLimitAll l h) (fun av m r h => by cases h) KT_nd
theorem cw_Int_takeReset : ab_cw y_Int_takeReset prog_4_method_4_code 4 2 (some .int) := ⟨ab_gW_in 735 (by decide +kernel) rfl, ab_gW_in 66 (by decide +kernel) rfl, by decide +kernel, by decide +kernel, by decide +kernel⟩
theorem is_Int_takeReset : Cond.instanceMethod y_Int_takeReset ∈ ab_gW := ab_gW_in 733 (by decide +kernel) rfl
theorem sl_Int_takeReset : Cond.selects "StreamTransport$Intake" y_Int_takeReset y_Int_takeReset ∈ ab_gW := ab_gW_in 734 (by decide +kernel) rfl
set_option maxRecDepth 100000 in
theorem cm_Int_takeReset (l : Launch) {av : List AV} {m : Mm} {r : Int32 × Mm} (h0 : c_Int_takeReset av m = some r) : ∃ (k q : Nat) (av' : List AV) (ci : Nat) (fs : List (Nat × Nat × Nat × Nat)) (z : vw_C), av = .inr (.inr (k, some q)) :: av' ∧ av'.length = 2 ∧ k ≠ 0 ∧ KT[k]? = some (.inl (ci, fs)) ∧ CL[ci]? = some z ∧ z.1 = "StreamTransport$Intake" ∧ ab_nos av' ∧ ab_Met l KT CL y_Int_takeReset (Cond.code y_Int_takeReset prog_4_method_4_code 4 (some .int) :: ab_gW) 3 68 none av m (some (.inl r.1)) r.2 := by
  obtain ⟨v0, v1, v2, hav, h⟩ := c_Int_takeReset_inv h0
  rw [r_Int_takeReset_eq] at h
  have hmo : ab_mo m r.2 := ab_kp_mo (kp_Int_takeReset h0)
  subst hav
  exact ⟨_, _, _, _, _, _, rfl, rfl, by decide, rfl, rfl, rfl, (by intro v hv q e; subst e; simp at hv), ab_met (by decide +kernel) KT_0 KT_nd KT_k3 E_Int_takeReset (cl_Int_takeReset l) hmo (Nat.le_of_ble_eq_true rfl) (ab_rI_inv h) (fun v hv => by cases hv; exact ⟨_, rfl⟩)⟩
/-! StreamTransport$Intake.loseLimits(LStreamTransport$Sent;)V -/
def y_Int_loseLimits : MethodName := ⟨"StreamTransport$Intake", "loseLimits", "(LStreamTransport$Sent;)V"⟩
def t_Int_loseLimits (pc : Nat) : Option Ent :=
  bif Nat.blt pc 28 then
    (bif Nat.blt pc 16 then
      (bif Nat.blt pc 8 then
        (bif Nat.blt pc 4 then
          (bif Nat.blt pc 1 then
            (bif Nat.beq pc 0 then some (.aload_n 1, 1, 0, 0, 0) else none)
          else
            bif Nat.beq pc 1 then some (.getfield 112, 8, 2, 0, 0) else none)
        else
          bif Nat.blt pc 5 then
            (bif Nat.beq pc 4 then some (.aload_n 0, 0, 0, 0, 0) else none)
          else
            bif Nat.beq pc 5 then some (.getfield 24, 2, 3, 0, 0) else none)
      else
        bif Nat.blt pc 12 then
          (bif Nat.blt pc 11 then
            (bif Nat.beq pc 8 then some (.if_icmp .ne (8), 16, 0, 0, 0) else none)
          else
            bif Nat.beq pc 11 then some (.aload_n 0, 0, 0, 0, 0) else none)
        else
          bif Nat.blt pc 13 then
            (bif Nat.beq pc 12 then some (.iconst 1, 0, 0, 0, 1) else none)
          else
            bif Nat.beq pc 13 then some (.putfield 109, 2, 4, 0, 0) else none)
    else
      bif Nat.blt pc 20 then
        (bif Nat.blt pc 18 then
          (bif Nat.blt pc 17 then
            (bif Nat.beq pc 16 then some (.iconst 0, 0, 0, 0, 0) else none)
          else
            bif Nat.beq pc 17 then some (.istore_n 2, 2, 0, 0, 0) else none)
        else
          bif Nat.blt pc 19 then
            (bif Nat.beq pc 18 then some (.iload_n 2, 2, 0, 0, 0) else none)
          else
            bif Nat.beq pc 19 then some (.iconst 4, 0, 0, 0, 4) else none)
      else
        bif Nat.blt pc 24 then
          (bif Nat.blt pc 23 then
            (bif Nat.beq pc 20 then some (.if_icmp .ge (37), 57, 0, 0, 0) else none)
          else
            bif Nat.beq pc 23 then some (.aload_n 1, 1, 0, 0, 0) else none)
        else
          bif Nat.blt pc 27 then
            (bif Nat.beq pc 24 then some (.getfield 117, 8, 3, 1, 0) else none)
          else
            bif Nat.beq pc 27 then some (.iload_n 2, 2, 0, 0, 0) else none)
  else
    bif Nat.blt pc 42 then
      (bif Nat.blt pc 34 then
        (bif Nat.blt pc 30 then
          (bif Nat.blt pc 29 then
            (bif Nat.beq pc 28 then some (.iaload, 0, 0, 0, 0) else none)
          else
            bif Nat.beq pc 29 then some (.aload_n 0, 0, 0, 0, 0) else none)
        else
          bif Nat.blt pc 33 then
            (bif Nat.beq pc 30 then some (.getfield 11, 2, 0, 1, 0) else none)
          else
            bif Nat.beq pc 33 then some (.iload_n 2, 2, 0, 0, 0) else none)
      else
        bif Nat.blt pc 38 then
          (bif Nat.blt pc 35 then
            (bif Nat.beq pc 34 then some (.aaload, 0, 0, 0, 0) else none)
          else
            bif Nat.beq pc 35 then some (.getfield 69, 1, 4, 0, 0) else none)
        else
          bif Nat.blt pc 41 then
            (bif Nat.beq pc 38 then some (.if_icmp .ne (13), 51, 0, 0, 0) else none)
          else
            bif Nat.beq pc 41 then some (.aload_n 0, 0, 0, 0, 0) else none)
    else
      bif Nat.blt pc 48 then
        (bif Nat.blt pc 46 then
          (bif Nat.blt pc 45 then
            (bif Nat.beq pc 42 then some (.getfield 11, 2, 0, 1, 0) else none)
          else
            bif Nat.beq pc 45 then some (.iload_n 2, 2, 0, 0, 0) else none)
        else
          bif Nat.blt pc 47 then
            (bif Nat.beq pc 46 then some (.aaload, 0, 0, 0, 0) else none)
          else
            bif Nat.beq pc 47 then some (.iconst 1, 0, 0, 0, 1) else none)
      else
        bif Nat.blt pc 54 then
          (bif Nat.blt pc 51 then
            (bif Nat.beq pc 48 then some (.putfield 103, 1, 6, 0, 0) else none)
          else
            bif Nat.beq pc 51 then some (.iinc 2 1, 2, 0, 0, 1) else none)
        else
          bif Nat.blt pc 57 then
            (bif Nat.beq pc 54 then some (.goto (-36), 18, 0, 0, 0) else none)
          else
            bif Nat.beq pc 57 then some (.return_, 0, 0, 0, 0) else none
def i_Int_loseLimits : Nat → Option Ent := ab_tab 58 t_Int_loseLimits
def h_Int_loseLimits (pc : Nat) : Nat × List Bool := bif Nat.beq pc 16 then (1, [true, true, false]) else bif Nat.beq pc 18 then (1, [true, true, true]) else bif Nat.beq pc 51 then (1, [true, true, true]) else (0, [])
def s_Int_loseLimits (pc : Nat) : List (Int32 × Nat) × Nat := ([], 0)
noncomputable def eV_Int_loseLimits : Nat → List AV → Mm → Option Mm := ab_ev []
noncomputable def eI_Int_loseLimits : Nat → List AV → Mm → Option (Int32 × Mm) := ab_ev []
noncomputable def b_Int_loseLimits_0 (f : Nat) (v0 : Nat) (v1 : Nat) (m : Mm) : Option Rs := ab_ex KT none s_Int_loseLimits eV_Int_loseLimits eI_Int_loseLimits i_Int_loseLimits h_Int_loseLimits f 0 [some (.inr (.inr (13, some v0))), some (.inr (.inr (22, some v1))), none] [] m
noncomputable def b_Int_loseLimits_16 (f : Nat) (v0 : Nat) (v1 : Nat) (m : Mm) : Option Rs := ab_ex KT none s_Int_loseLimits eV_Int_loseLimits eI_Int_loseLimits i_Int_loseLimits h_Int_loseLimits f 16 [some (.inr (.inr (13, some v0))), some (.inr (.inr (22, some v1))), none] [] m
noncomputable def b_Int_loseLimits_18 (f : Nat) (v0 : Nat) (v1 : Nat) (v2 : Int32) (m : Mm) : Option Rs := ab_ex KT none s_Int_loseLimits eV_Int_loseLimits eI_Int_loseLimits i_Int_loseLimits h_Int_loseLimits f 18 [some (.inr (.inr (13, some v0))), some (.inr (.inr (22, some v1))), some (.inl v2)] [] m
noncomputable def b_Int_loseLimits_51 (f : Nat) (v0 : Nat) (v1 : Nat) (v2 : Int32) (m : Mm) : Option Rs := ab_ex KT none s_Int_loseLimits eV_Int_loseLimits eI_Int_loseLimits i_Int_loseLimits h_Int_loseLimits f 51 [some (.inr (.inr (13, some v0))), some (.inr (.inr (22, some v1))), some (.inl v2)] [] m
set_option maxRecDepth 100000 in
set_option maxHeartbeats 4000000 in
theorem b_Int_loseLimits_0_eq (f : Nat) (v0 : Nat) (v1 : Nat) (m : Mm) : b_Int_loseLimits_0 (f + 1) v0 v1 m =
    if (m.1 70 v1 0) = (m.1 43 v0 0) then
      (ab_bo (1 : Int32)).bind fun y2 =>
      ab_let (ab_uI m 44 v0 0 y2) fun m1 =>
      b_Int_loseLimits_16 f v0 v1 m1
    else
      b_Int_loseLimits_16 f v0 v1 m := rfl
set_option maxRecDepth 100000 in
set_option maxHeartbeats 4000000 in
theorem b_Int_loseLimits_16_eq (f : Nat) (v0 : Nat) (v1 : Nat) (m : Mm) : b_Int_loseLimits_16 (f + 1) v0 v1 m =
    b_Int_loseLimits_18 f v0 v1 (0 : Int32) m := rfl
set_option maxRecDepth 100000 in
set_option maxHeartbeats 4000000 in
theorem b_Int_loseLimits_18_eq (f : Nat) (v0 : Nat) (v1 : Nat) (v2 : Int32) (m : Mm) : b_Int_loseLimits_18 (f + 1) v0 v1 v2 m =
    if (4 : Int32) ≤ v2 then
      some (.inl (none, m))
    else
      (ab_ix v2 4).bind fun i1 =>
      (ab_ix v2 4).bind fun i2 =>
      if (m.1 76 (v1 + 1) i1) = (m.1 50 ((v0 + 1) + 1 + 2 * i2) 0) then
        (ab_ix v2 4).bind fun i3 =>
        (ab_bo (1 : Int32)).bind fun y5 =>
        ab_let (ab_uI m 52 ((v0 + 1) + 1 + 2 * i3) 0 y5) fun m4 =>
        b_Int_loseLimits_51 f v0 v1 v2 m4
      else
        b_Int_loseLimits_51 f v0 v1 v2 m := rfl
set_option maxRecDepth 100000 in
set_option maxHeartbeats 4000000 in
theorem b_Int_loseLimits_51_eq (f : Nat) (v0 : Nat) (v1 : Nat) (v2 : Int32) (m : Mm) : b_Int_loseLimits_51 (f + 1) v0 v1 v2 m =
    ab_let (v2 + (1 : Int32)) fun x1 =>
    b_Int_loseLimits_18 f v0 v1 x1 m := rfl
noncomputable def r_Int_loseLimits : Nat → Nat → Mm → Option Mm := ab_seal fun v0 v1 m => ab_rV (b_Int_loseLimits_0 50000 v0 v1 m)
theorem r_Int_loseLimits_eq (v0 : Nat) (v1 : Nat) (m : Mm) : r_Int_loseLimits v0 v1 m = ab_rV (b_Int_loseLimits_0 50000 v0 v1 m) := by
  unfold r_Int_loseLimits
  rw [ab_seal_eq]
noncomputable def c_Int_loseLimits : List AV → Mm → Option Mm := fun av m => match av with
  | [.inr (.inr (kv0, ov0)), .inr (.inr (kv1, ov1))] => if kv0 = 13 then (if kv1 = 22 then (ov0.bind fun v0 => ov1.bind fun v1 => r_Int_loseLimits v0 v1 m) else none) else none
  | _ => none
theorem c_Int_loseLimits_inv {av : List AV} {m : Mm} {r : Mm} (h : c_Int_loseLimits av m = some r) : ∃ (v0 : Nat) (v1 : Nat), av = [.inr (.inr (13, some v0)), .inr (.inr (22, some v1))] ∧ r_Int_loseLimits v0 v1 m = some r := by
  unfold c_Int_loseLimits at h
  split at h
  · rename_i kv0 ov0 kv1 ov1
    by_cases hkv0 : kv0 = 13
    case neg => rw [if_neg hkv0] at h; cases h
    rw [if_pos hkv0] at h
    subst hkv0
    by_cases hkv1 : kv1 = 22
    case neg => rw [if_neg hkv1] at h; cases h
    rw [if_pos hkv1] at h
    subst hkv1
    obtain ⟨v0, hev0, h⟩ := Option.bind_eq_some_iff.mp h
    obtain ⟨v1, hev1, h⟩ := Option.bind_eq_some_iff.mp h
    subst hev0
    subst hev1
    exact ⟨v0, v1, rfl, h⟩
  · cases h
def cs_Int_loseLimits : List Nat := []
set_option maxRecDepth 100000 in
theorem E_Int_loseLimits : ∀ (pc : Nat) (q : Ent), i_Int_loseLimits pc = some q → ab_E KT CL ab_gW "StreamTransport$Intake" "loseLimits" none prog_4_method_12_code s_Int_loseLimits 3 pc q.1 q.2.1 q.2.2.1 q.2.2.2.1 q.2.2.2.2 := fun pc q hq =>
  ab_Eb_ok lc_Int lj_Int fl_Int (fpn_Int "loseLimits") nw_Int na_Int nq_Int (ab_tab_all (t := t_Int_loseLimits) (chk := fun pc q => ab_Eb none prog_4_method_12_code s_Int_loseLimits 3 LC_Int LJ_Int FL_Int FPn_Int NW_Int NA_Int NQ_Int pc q.1 q.2.1 q.2.2.1 q.2.2.2.1 q.2.2.2.2) (by decide +kernel) hq)
set_option maxRecDepth 100000 in
theorem kp_Int_loseLimits {av : List AV} {m : Mm} {r : Mm} (h : c_Int_loseLimits av m = some r) : ab_kp m r := by
  obtain ⟨v0, v1, -, h⟩ := c_Int_loseLimits_inv h
  rw [r_Int_loseLimits_eq] at h
  have hV : ∀ a av m m', eV_Int_loseLimits a av m = some m' → ab_kp m m' := ab_ev_all (P := fun _ m r => ab_kp m r) [] (fun q hq => by cases hq)
  have hI : ∀ a av m q, eI_Int_loseLimits a av m = some q → ab_kp m q.2 := ab_ev_all (P := fun _ (m : Mm) (r : Int32 × Mm) => ab_kp m r.2) [] (fun q hq => by cases hq)
  exact ab_kprel (ρ := .inl (none, r)) (ab_tab_isn (t := t_Int_loseLimits) (by decide +kernel)) hV hI (ab_rV_inv h)
set_option maxRecDepth 100000 in
theorem cl_Int_loseLimits (l : Launch) : ∀ (pc : Nat) (q : Ent), i_Int_loseLimits pc = some q → ab_inv q.1 = true → ab_CR l KT CL none ab_gW "StreamTransport$Intake" prog_4_method_12_code 3 0 0 eV_Int_loseLimits eI_Int_loseLimits pc q := by
  intro pc q hq hi
  have hm : pc ∈ cs_Int_loseLimits := ab_tab_cs (t := t_Int_loseLimits) (by decide +kernel) hq hi
  cases hm
theorem cw_Int_loseLimits : ab_cw y_Int_loseLimits prog_4_method_12_code 3 1 none := ⟨ab_gW_in 700 (by decide +kernel) rfl, ab_gW_in 66 (by decide +kernel) rfl, by decide +kernel, by decide +kernel, by decide +kernel⟩
theorem is_Int_loseLimits : Cond.instanceMethod y_Int_loseLimits ∈ ab_gW := ab_gW_in 698 (by decide +kernel) rfl
theorem sl_Int_loseLimits : Cond.selects "StreamTransport$Intake" y_Int_loseLimits y_Int_loseLimits ∈ ab_gW := ab_gW_in 699 (by decide +kernel) rfl
set_option maxRecDepth 100000 in
theorem cm_Int_loseLimits (l : Launch) {av : List AV} {m : Mm} {r : Mm} (h0 : c_Int_loseLimits av m = some r) : ∃ (k q : Nat) (av' : List AV) (ci : Nat) (fs : List (Nat × Nat × Nat × Nat)) (z : vw_C), av = .inr (.inr (k, some q)) :: av' ∧ av'.length = 1 ∧ k ≠ 0 ∧ KT[k]? = some (.inl (ci, fs)) ∧ CL[ci]? = some z ∧ z.1 = "StreamTransport$Intake" ∧ ab_nos av' ∧ ab_Met l KT CL y_Int_loseLimits (Cond.code y_Int_loseLimits prog_4_method_12_code 3 none :: ab_gW) 0 0 none av m none r := by
  obtain ⟨v0, v1, hav, h⟩ := c_Int_loseLimits_inv h0
  rw [r_Int_loseLimits_eq] at h
  have hmo : ab_mo m r := ab_kp_mo (kp_Int_loseLimits h0)
  subst hav
  exact ⟨_, _, _, _, _, _, rfl, rfl, by decide, rfl, rfl, rfl, (by intro v hv q e; subst e; simp at hv), ab_met (by decide +kernel) KT_0 KT_nd KT_k3 E_Int_loseLimits (cl_Int_loseLimits l) hmo (Nat.le_of_ble_eq_true rfl) (ab_rV_inv h) (fun v hv => by cases hv)⟩
/-! StreamTransport$Intake.putLimitAll(LStreamTransport$Row;LStreamTransport$Sent;)V -/
def y_Int_putLimitAll : MethodName := ⟨"StreamTransport$Intake", "putLimitAll", "(LStreamTransport$Row;LStreamTransport$Sent;)V"⟩
def t_Int_putLimitAll (pc : Nat) : Option Ent :=
  bif Nat.blt pc 27 then
    (bif Nat.blt pc 13 then
      (bif Nat.blt pc 5 then
        (bif Nat.blt pc 1 then
          (bif Nat.beq pc 0 then some (.aload_n 0, 0, 0, 0, 0) else none)
        else
          bif Nat.blt pc 4 then
            (bif Nat.beq pc 1 then some (.invokevirtual 106, 55, 1, 1, 0) else none)
          else
            bif Nat.beq pc 4 then some (.istore_n 3, 3, 0, 0, 0) else none)
      else
        bif Nat.blt pc 9 then
          (bif Nat.blt pc 6 then
            (bif Nat.beq pc 5 then some (.aload_n 0, 0, 0, 0, 0) else none)
          else
            bif Nat.beq pc 6 then some (.getfield 109, 2, 4, 0, 0) else none)
        else
          bif Nat.blt pc 12 then
            (bif Nat.beq pc 9 then some (.ifCond .eq (16), 25, 0, 0, 0) else none)
          else
            bif Nat.beq pc 12 then some (.aload_n 1, 1, 0, 0, 0) else none)
    else
      bif Nat.blt pc 19 then
        (bif Nat.blt pc 15 then
          (bif Nat.blt pc 14 then
            (bif Nat.beq pc 13 then some (.iconst 1, 0, 0, 0, 1) else none)
          else
            bif Nat.beq pc 14 then some (.iload_n 3, 3, 0, 0, 0) else none)
        else
          bif Nat.blt pc 18 then
            (bif Nat.beq pc 15 then some (.invokestatic 128, 4, 1, 1, 0) else none)
          else
            bif Nat.beq pc 18 then some (.iadd, 0, 0, 0, 0) else none)
      else
        bif Nat.blt pc 25 then
          (bif Nat.blt pc 22 then
            (bif Nat.beq pc 19 then some (.invokevirtual 131, 7, 2, 1, 0) else none)
          else
            bif Nat.beq pc 22 then some (.ifCond .ne (4), 26, 0, 0, 0) else none)
        else
          bif Nat.blt pc 26 then
            (bif Nat.beq pc 25 then some (.return_, 0, 0, 0, 0) else none)
          else
            bif Nat.beq pc 26 then some (.aload_n 1, 1, 0, 0, 0) else none)
  else
    bif Nat.blt pc 38 then
      (bif Nat.blt pc 32 then
        (bif Nat.blt pc 28 then
          (bif Nat.beq pc 27 then some (.iconst 3, 0, 0, 0, 3) else none)
        else
          bif Nat.blt pc 31 then
            (bif Nat.beq pc 28 then some (.invokevirtual 137, 8, 2, 0, 0) else none)
          else
            bif Nat.beq pc 31 then some (.aload_n 1, 1, 0, 0, 0) else none)
      else
        bif Nat.blt pc 36 then
          (bif Nat.blt pc 33 then
            (bif Nat.beq pc 32 then some (.iload_n 3, 3, 0, 0, 0) else none)
          else
            bif Nat.beq pc 33 then some (.invokevirtual 140, 10, 2, 0, 0) else none)
        else
          bif Nat.blt pc 37 then
            (bif Nat.beq pc 36 then some (.aload_n 2, 2, 0, 0, 0) else none)
          else
            bif Nat.beq pc 37 then some (.iload_n 3, 3, 0, 0, 0) else none)
    else
      bif Nat.blt pc 46 then
        (bif Nat.blt pc 42 then
          (bif Nat.blt pc 41 then
            (bif Nat.beq pc 38 then some (.putfield 112, 8, 2, 0, 0) else none)
          else
            bif Nat.beq pc 41 then some (.aload_n 0, 0, 0, 0, 0) else none)
        else
          bif Nat.blt pc 43 then
            (bif Nat.beq pc 42 then some (.iload_n 3, 3, 0, 0, 0) else none)
          else
            bif Nat.beq pc 43 then some (.putfield 24, 2, 3, 0, 0) else none)
      else
        bif Nat.blt pc 48 then
          (bif Nat.blt pc 47 then
            (bif Nat.beq pc 46 then some (.aload_n 0, 0, 0, 0, 0) else none)
          else
            bif Nat.beq pc 47 then some (.iconst 0, 0, 0, 0, 0) else none)
        else
          bif Nat.blt pc 51 then
            (bif Nat.beq pc 48 then some (.putfield 109, 2, 4, 0, 0) else none)
          else
            bif Nat.beq pc 51 then some (.return_, 0, 0, 0, 0) else none
def i_Int_putLimitAll : Nat → Option Ent := ab_tab 52 t_Int_putLimitAll
def h_Int_putLimitAll (pc : Nat) : Nat × List Bool := (0, [])
def s_Int_putLimitAll (pc : Nat) : List (Int32 × Nat) × Nat := ([], 0)
noncomputable def eV_Int_putLimitAll : Nat → List AV → Mm → Option Mm := ab_ev [(8, c_Row_put), (10, c_Row_putNumber)]
noncomputable def eI_Int_putLimitAll : Nat → List AV → Mm → Option (Int32 × Mm) := ab_ev [(55, c_Int_limitForAll), (4, c_X_sizeOf), (7, c_Row_hasRoomFor)]
noncomputable def b_Int_putLimitAll_0 (f : Nat) (v0 : Nat) (v1 : Nat) (v2 : Nat) (m : Mm) : Option Rs := ab_ex KT none s_Int_putLimitAll eV_Int_putLimitAll eI_Int_putLimitAll i_Int_putLimitAll h_Int_putLimitAll f 0 [some (.inr (.inr (13, some v0))), some (.inr (.inr (4, some v1))), some (.inr (.inr (22, some v2))), none] [] m
set_option maxRecDepth 100000 in
set_option maxHeartbeats 4000000 in
theorem b_Int_putLimitAll_0_eq (f : Nat) (v0 : Nat) (v1 : Nat) (v2 : Nat) (m : Mm) : b_Int_putLimitAll_0 (f + 1) v0 v1 v2 m =
    (r_Int_limitForAll v0 m).bind fun z1 =>
    if (z1.2.1 44 v0 0) = 0 then
      some (.inl (none, z1.2))
    else
      (r_X_sizeOf z1.1 z1.2).bind fun z2 =>
      (r_Row_hasRoomFor v1 ((1 : Int32) + z2.1) z2.2).bind fun z3 =>
      if z3.1 = 0 then
        some (.inl (none, z3.2))
      else
        (r_Row_put v1 (3 : Int32) z3.2).bind fun m4 =>
        (r_Row_putNumber v1 z1.1 m4).bind fun m5 =>
        ab_let (ab_uI m5 70 v2 0 z1.1) fun m6 =>
        ab_let (ab_uI m6 43 v0 0 z1.1) fun m7 =>
        (ab_bo (0 : Int32)).bind fun y9 =>
        ab_let (ab_uI m7 44 v0 0 y9) fun m8 =>
        some (.inl (none, m8)) := rfl
noncomputable def r_Int_putLimitAll : Nat → Nat → Nat → Mm → Option Mm := ab_seal fun v0 v1 v2 m => ab_rV (b_Int_putLimitAll_0 50000 v0 v1 v2 m)
theorem r_Int_putLimitAll_eq (v0 : Nat) (v1 : Nat) (v2 : Nat) (m : Mm) : r_Int_putLimitAll v0 v1 v2 m = ab_rV (b_Int_putLimitAll_0 50000 v0 v1 v2 m) := by
  unfold r_Int_putLimitAll
  rw [ab_seal_eq]
noncomputable def c_Int_putLimitAll : List AV → Mm → Option Mm := fun av m => match av with
  | [.inr (.inr (kv0, ov0)), .inr (.inr (kv1, ov1)), .inr (.inr (kv2, ov2))] => if kv0 = 13 then (if kv1 = 4 then (if kv2 = 22 then (ov0.bind fun v0 => ov1.bind fun v1 => ov2.bind fun v2 => r_Int_putLimitAll v0 v1 v2 m) else none) else none) else none
  | _ => none
theorem c_Int_putLimitAll_inv {av : List AV} {m : Mm} {r : Mm} (h : c_Int_putLimitAll av m = some r) : ∃ (v0 : Nat) (v1 : Nat) (v2 : Nat), av = [.inr (.inr (13, some v0)), .inr (.inr (4, some v1)), .inr (.inr (22, some v2))] ∧ r_Int_putLimitAll v0 v1 v2 m = some r := by
  unfold c_Int_putLimitAll at h
  split at h
  · rename_i kv0 ov0 kv1 ov1 kv2 ov2
    by_cases hkv0 : kv0 = 13
    case neg => rw [if_neg hkv0] at h; cases h
    rw [if_pos hkv0] at h
    subst hkv0
    by_cases hkv1 : kv1 = 4
    case neg => rw [if_neg hkv1] at h; cases h
    rw [if_pos hkv1] at h
    subst hkv1
    by_cases hkv2 : kv2 = 22
    case neg => rw [if_neg hkv2] at h; cases h
    rw [if_pos hkv2] at h
    subst hkv2
    obtain ⟨v0, hev0, h⟩ := Option.bind_eq_some_iff.mp h
    obtain ⟨v1, hev1, h⟩ := Option.bind_eq_some_iff.mp h
    obtain ⟨v2, hev2, h⟩ := Option.bind_eq_some_iff.mp h
    subst hev0
    subst hev1
    subst hev2
    exact ⟨v0, v1, v2, rfl, h⟩
  · cases h
def cs_Int_putLimitAll : List Nat := [1, 15, 19, 28, 33]
set_option maxRecDepth 100000 in
theorem E_Int_putLimitAll : ∀ (pc : Nat) (q : Ent), i_Int_putLimitAll pc = some q → ab_E KT CL ab_gW "StreamTransport$Intake" "putLimitAll" none prog_4_method_14_code s_Int_putLimitAll 4 pc q.1 q.2.1 q.2.2.1 q.2.2.2.1 q.2.2.2.2 := fun pc q hq =>
  ab_Eb_ok lc_Int lj_Int fl_Int (fpn_Int "putLimitAll") nw_Int na_Int nq_Int (ab_tab_all (t := t_Int_putLimitAll) (chk := fun pc q => ab_Eb none prog_4_method_14_code s_Int_putLimitAll 4 LC_Int LJ_Int FL_Int FPn_Int NW_Int NA_Int NQ_Int pc q.1 q.2.1 q.2.2.1 q.2.2.2.1 q.2.2.2.2) (by decide +kernel) hq)
set_option maxRecDepth 100000 in
theorem kp_Int_putLimitAll {av : List AV} {m : Mm} {r : Mm} (h : c_Int_putLimitAll av m = some r) : ab_kp m r := by
  obtain ⟨v0, v1, v2, -, h⟩ := c_Int_putLimitAll_inv h
  rw [r_Int_putLimitAll_eq] at h
  have hV : ∀ a av m m', eV_Int_putLimitAll a av m = some m' → ab_kp m m' := ab_ev_all (P := fun _ m r => ab_kp m r) [(8, c_Row_put), (10, c_Row_putNumber)] (List.forall_mem_cons.mpr ⟨fun av m r h => kp_Row_put h, List.forall_mem_cons.mpr ⟨fun av m r h => kp_Row_putNumber h, fun q hq => by cases hq⟩⟩)
  have hI : ∀ a av m q, eI_Int_putLimitAll a av m = some q → ab_kp m q.2 := ab_ev_all (P := fun _ (m : Mm) (r : Int32 × Mm) => ab_kp m r.2) [(55, c_Int_limitForAll), (4, c_X_sizeOf), (7, c_Row_hasRoomFor)] (List.forall_mem_cons.mpr ⟨fun av m r h => kp_Int_limitForAll h, List.forall_mem_cons.mpr ⟨fun av m r h => kp_X_sizeOf h, List.forall_mem_cons.mpr ⟨fun av m r h => kp_Row_hasRoomFor h, fun q hq => by cases hq⟩⟩⟩)
  exact ab_kprel (ρ := .inl (none, r)) (ab_tab_isn (t := t_Int_putLimitAll) (by decide +kernel)) hV hI (ab_rV_inv h)
set_option maxRecDepth 100000 in
theorem cl_Int_putLimitAll (l : Launch) : ∀ (pc : Nat) (q : Ent), i_Int_putLimitAll pc = some q → ab_inv q.1 = true → ab_CR l KT CL none ab_gW "StreamTransport$Intake" prog_4_method_14_code 4 2 45 eV_Int_putLimitAll eI_Int_putLimitAll pc q := by
  intro pc q hq hi
  have hm : pc ∈ cs_Int_putLimitAll := ab_tab_cs (t := t_Int_putLimitAll) (by decide +kernel) hq hi
  simp only [cs_Int_putLimitAll, List.mem_cons, List.not_mem_nil, or_false] at hm
  rcases hm with rfl | rfl | rfl | rfl | rfl
  · cases (Option.some.inj hq : ((.invokevirtual 106, 55, 1, 1, 0) : Ent) = q)
    exact ab_crV (C := "StreamTransport$Intake") (by decide +kernel) cw_Int_limitForAll (ab_gW_in 495 (by decide +kernel) rfl) is_Int_limitForAll sl_Int_limitForAll (by decide) (fun av m m' h => by cases h) (fun av m r h => cm_Int_limitForAll l h) KT_nd
  · cases (Option.some.inj hq : ((.invokestatic 128, 4, 1, 1, 0) : Ent) = q)
    exact ab_crSN (by decide +kernel) cw_X_sizeOf (by decide +kernel) st_X_sizeOf (by decide) (fun av m m' h => by cases h) (fun av m r h => cm_X_sizeOf l h) KT_nd
  · cases (Option.some.inj hq : ((.invokevirtual 131, 7, 2, 1, 0) : Ent) = q)
    exact ab_crV (C := "StreamTransport$Row") (by decide +kernel) cw_Row_hasRoomFor (ab_gW_in 507 (by decide +kernel) rfl) is_Row_hasRoomFor sl_Row_hasRoomFor (by decide) (fun av m m' h => by cases h) (fun av m r h => cm_Row_hasRoomFor l h) KT_nd
  · cases (Option.some.inj hq : ((.invokevirtual 137, 8, 2, 0, 0) : Ent) = q)
    exact ab_crV (C := "StreamTransport$Row") (by decide +kernel) cw_Row_put (ab_gW_in 515 (by decide +kernel) rfl) is_Row_put sl_Row_put (by decide) (fun av m m' h => cm_Row_put l h) (fun av m r h => by cases h) KT_nd
  · cases (Option.some.inj hq : ((.invokevirtual 140, 10, 2, 0, 0) : Ent) = q)
    exact ab_crV (C := "StreamTransport$Row") (by decide +kernel) cw_Row_putNumber (ab_gW_in 516 (by decide +kernel) rfl) is_Row_putNumber sl_Row_putNumber (by decide) (fun av m m' h => cm_Row_putNumber l h) (fun av m r h => by cases h) KT_nd
theorem cw_Int_putLimitAll : ab_cw y_Int_putLimitAll prog_4_method_14_code 4 2 none := ⟨ab_gW_in 494 (by decide +kernel) rfl, ab_gW_in 66 (by decide +kernel) rfl, by decide +kernel, by decide +kernel, by decide +kernel⟩
theorem is_Int_putLimitAll : Cond.instanceMethod y_Int_putLimitAll ∈ ab_gW := ab_gW_in 493 (by decide +kernel) rfl
theorem sl_Int_putLimitAll : Cond.selects "StreamTransport$Intake" y_Int_putLimitAll y_Int_putLimitAll ∈ ab_gW := ab_gW_in 2 (by decide +kernel) rfl
set_option maxRecDepth 100000 in
theorem cm_Int_putLimitAll (l : Launch) {av : List AV} {m : Mm} {r : Mm} (h0 : c_Int_putLimitAll av m = some r) : ∃ (k q : Nat) (av' : List AV) (ci : Nat) (fs : List (Nat × Nat × Nat × Nat)) (z : vw_C), av = .inr (.inr (k, some q)) :: av' ∧ av'.length = 2 ∧ k ≠ 0 ∧ KT[k]? = some (.inl (ci, fs)) ∧ CL[ci]? = some z ∧ z.1 = "StreamTransport$Intake" ∧ ab_nos av' ∧ ab_Met l KT CL y_Int_putLimitAll (Cond.code y_Int_putLimitAll prog_4_method_14_code 4 none :: ab_gW) 2 45 none av m none r := by
  obtain ⟨v0, v1, v2, hav, h⟩ := c_Int_putLimitAll_inv h0
  rw [r_Int_putLimitAll_eq] at h
  have hmo : ab_mo m r := ab_kp_mo (kp_Int_putLimitAll h0)
  subst hav
  exact ⟨_, _, _, _, _, _, rfl, rfl, by decide, rfl, rfl, rfl, (by intro v hv q e; subst e; simp at hv), ab_met (by decide +kernel) KT_0 KT_nd KT_k3 E_Int_putLimitAll (cl_Int_putLimitAll l) hmo (Nat.le_of_ble_eq_true rfl) (ab_rV_inv h) (fun v hv => by cases hv)⟩
/-! StreamTransport$Intake.putLimit(LStreamTransport$Row;LStreamTransport$Sent;I)V -/
def y_Int_putLimit : MethodName := ⟨"StreamTransport$Intake", "putLimit", "(LStreamTransport$Row;LStreamTransport$Sent;I)V"⟩
def t_Int_putLimit (pc : Nat) : Option Ent :=
  bif Nat.blt pc 44 then
    (bif Nat.blt pc 21 then
      (bif Nat.blt pc 10 then
        (bif Nat.blt pc 5 then
          (bif Nat.blt pc 1 then
            (bif Nat.beq pc 0 then some (.aload_n 0, 0, 0, 0, 0) else none)
          else
            bif Nat.blt pc 2 then
              (bif Nat.beq pc 1 then some (.aload_n 0, 0, 0, 0, 0) else none)
            else
              bif Nat.beq pc 2 then some (.getfield 11, 2, 0, 1, 0) else none)
        else
          bif Nat.blt pc 6 then
            (bif Nat.beq pc 5 then some (.iload_n 3, 3, 0, 0, 0) else none)
          else
            bif Nat.blt pc 7 then
              (bif Nat.beq pc 6 then some (.aaload, 0, 0, 0, 0) else none)
            else
              bif Nat.beq pc 7 then some (.invokevirtual 95, 54, 2, 1, 0) else none)
      else
        bif Nat.blt pc 16 then
          (bif Nat.blt pc 12 then
            (bif Nat.beq pc 10 then some (.istore 4, 4, 0, 0, 0) else none)
          else
            bif Nat.blt pc 13 then
              (bif Nat.beq pc 12 then some (.aload_n 0, 0, 0, 0, 0) else none)
            else
              bif Nat.beq pc 13 then some (.getfield 11, 2, 0, 1, 0) else none)
        else
          bif Nat.blt pc 17 then
            (bif Nat.beq pc 16 then some (.iload_n 3, 3, 0, 0, 0) else none)
          else
            bif Nat.blt pc 18 then
              (bif Nat.beq pc 17 then some (.aaload, 0, 0, 0, 0) else none)
            else
              bif Nat.beq pc 18 then some (.getfield 103, 1, 6, 0, 0) else none)
    else
      bif Nat.blt pc 32 then
        (bif Nat.blt pc 26 then
          (bif Nat.blt pc 24 then
            (bif Nat.beq pc 21 then some (.ifCond .eq (17), 38, 0, 0, 0) else none)
          else
            bif Nat.blt pc 25 then
              (bif Nat.beq pc 24 then some (.aload_n 1, 1, 0, 0, 0) else none)
            else
              bif Nat.beq pc 25 then some (.iconst 2, 0, 0, 0, 2) else none)
        else
          bif Nat.blt pc 28 then
            (bif Nat.beq pc 26 then some (.iload 4, 4, 0, 0, 0) else none)
          else
            bif Nat.blt pc 31 then
              (bif Nat.beq pc 28 then some (.invokestatic 128, 4, 1, 1, 0) else none)
            else
              bif Nat.beq pc 31 then some (.iadd, 0, 0, 0, 0) else none)
      else
        bif Nat.blt pc 39 then
          (bif Nat.blt pc 35 then
            (bif Nat.beq pc 32 then some (.invokevirtual 131, 7, 2, 1, 0) else none)
          else
            bif Nat.blt pc 38 then
              (bif Nat.beq pc 35 then some (.ifCond .ne (4), 39, 0, 0, 0) else none)
            else
              bif Nat.beq pc 38 then some (.return_, 0, 0, 0, 0) else none)
        else
          bif Nat.blt pc 40 then
            (bif Nat.beq pc 39 then some (.aload_n 1, 1, 0, 0, 0) else none)
          else
            bif Nat.blt pc 41 then
              (bif Nat.beq pc 40 then some (.iconst 4, 0, 0, 0, 4) else none)
            else
              bif Nat.beq pc 41 then some (.invokevirtual 137, 8, 2, 0, 0) else none)
  else
    bif Nat.blt pc 64 then
      (bif Nat.blt pc 55 then
        (bif Nat.blt pc 49 then
          (bif Nat.blt pc 45 then
            (bif Nat.beq pc 44 then some (.aload_n 1, 1, 0, 0, 0) else none)
          else
            bif Nat.blt pc 46 then
              (bif Nat.beq pc 45 then some (.iload_n 3, 3, 0, 0, 0) else none)
            else
              bif Nat.beq pc 46 then some (.invokevirtual 140, 10, 2, 0, 0) else none)
        else
          bif Nat.blt pc 50 then
            (bif Nat.beq pc 49 then some (.aload_n 1, 1, 0, 0, 0) else none)
          else
            bif Nat.blt pc 52 then
              (bif Nat.beq pc 50 then some (.iload 4, 4, 0, 0, 0) else none)
            else
              bif Nat.beq pc 52 then some (.invokevirtual 140, 10, 2, 0, 0) else none)
      else
        bif Nat.blt pc 60 then
          (bif Nat.blt pc 56 then
            (bif Nat.beq pc 55 then some (.aload_n 2, 2, 0, 0, 0) else none)
          else
            bif Nat.blt pc 59 then
              (bif Nat.beq pc 56 then some (.getfield 117, 8, 3, 1, 0) else none)
            else
              bif Nat.beq pc 59 then some (.iload_n 3, 3, 0, 0, 0) else none)
        else
          bif Nat.blt pc 62 then
            (bif Nat.beq pc 60 then some (.iload 4, 4, 0, 0, 0) else none)
          else
            bif Nat.blt pc 63 then
              (bif Nat.beq pc 62 then some (.iastore, 0, 0, 0, 0) else none)
            else
              bif Nat.beq pc 63 then some (.aload_n 0, 0, 0, 0, 0) else none)
    else
      bif Nat.blt pc 75 then
        (bif Nat.blt pc 69 then
          (bif Nat.blt pc 67 then
            (bif Nat.beq pc 64 then some (.getfield 11, 2, 0, 1, 0) else none)
          else
            bif Nat.blt pc 68 then
              (bif Nat.beq pc 67 then some (.iload_n 3, 3, 0, 0, 0) else none)
            else
              bif Nat.beq pc 68 then some (.aaload, 0, 0, 0, 0) else none)
        else
          bif Nat.blt pc 71 then
            (bif Nat.beq pc 69 then some (.iload 4, 4, 0, 0, 0) else none)
          else
            bif Nat.blt pc 74 then
              (bif Nat.beq pc 71 then some (.putfield 69, 1, 4, 0, 0) else none)
            else
              bif Nat.beq pc 74 then some (.aload_n 0, 0, 0, 0, 0) else none)
      else
        bif Nat.blt pc 80 then
          (bif Nat.blt pc 78 then
            (bif Nat.beq pc 75 then some (.getfield 11, 2, 0, 1, 0) else none)
          else
            bif Nat.blt pc 79 then
              (bif Nat.beq pc 78 then some (.iload_n 3, 3, 0, 0, 0) else none)
            else
              bif Nat.beq pc 79 then some (.aaload, 0, 0, 0, 0) else none)
        else
          bif Nat.blt pc 81 then
            (bif Nat.beq pc 80 then some (.iconst 0, 0, 0, 0, 0) else none)
          else
            bif Nat.blt pc 84 then
              (bif Nat.beq pc 81 then some (.putfield 103, 1, 6, 0, 0) else none)
            else
              bif Nat.beq pc 84 then some (.return_, 0, 0, 0, 0) else none
def i_Int_putLimit : Nat → Option Ent := ab_tab 85 t_Int_putLimit
def h_Int_putLimit (pc : Nat) : Nat × List Bool := (0, [])
def s_Int_putLimit (pc : Nat) : List (Int32 × Nat) × Nat := ([], 0)
noncomputable def eV_Int_putLimit : Nat → List AV → Mm → Option Mm := ab_ev [(8, c_Row_put), (10, c_Row_putNumber)]
noncomputable def eI_Int_putLimit : Nat → List AV → Mm → Option (Int32 × Mm) := ab_ev [(54, c_Int_limitFor), (4, c_X_sizeOf), (7, c_Row_hasRoomFor)]
noncomputable def b_Int_putLimit_0 (f : Nat) (v0 : Nat) (v1 : Nat) (v2 : Nat) (v3 : Int32) (m : Mm) : Option Rs := ab_ex KT none s_Int_putLimit eV_Int_putLimit eI_Int_putLimit i_Int_putLimit h_Int_putLimit f 0 [some (.inr (.inr (13, some v0))), some (.inr (.inr (4, some v1))), some (.inr (.inr (22, some v2))), some (.inl v3), none] [] m
set_option maxRecDepth 100000 in
set_option maxHeartbeats 4000000 in
theorem b_Int_putLimit_0_eq (f : Nat) (v0 : Nat) (v1 : Nat) (v2 : Nat) (v3 : Int32) (m : Mm) : b_Int_putLimit_0 (f + 1) v0 v1 v2 v3 m =
    (ab_ix v3 4).bind fun i1 =>
    (r_Int_limitFor v0 ((v0 + 1) + 1 + 2 * i1) m).bind fun z2 =>
    (ab_ix v3 4).bind fun i3 =>
    if (z2.2.1 52 ((v0 + 1) + 1 + 2 * i3) 0) = 0 then
      some (.inl (none, z2.2))
    else
      (r_X_sizeOf z2.1 z2.2).bind fun z4 =>
      (r_Row_hasRoomFor v1 ((2 : Int32) + z4.1) z4.2).bind fun z5 =>
      if z5.1 = 0 then
        some (.inl (none, z5.2))
      else
        (r_Row_put v1 (4 : Int32) z5.2).bind fun m6 =>
        (r_Row_putNumber v1 v3 m6).bind fun m7 =>
        (r_Row_putNumber v1 z2.1 m7).bind fun m8 =>
        (ab_ix v3 4).bind fun i9 =>
        ab_let (ab_uI m8 76 (v2 + 1) i9 z2.1) fun m10 =>
        (ab_ix v3 4).bind fun i11 =>
        ab_let (ab_uI m10 50 ((v0 + 1) + 1 + 2 * i11) 0 z2.1) fun m12 =>
        (ab_ix v3 4).bind fun i13 =>
        (ab_bo (0 : Int32)).bind fun y15 =>
        ab_let (ab_uI m12 52 ((v0 + 1) + 1 + 2 * i13) 0 y15) fun m14 =>
        some (.inl (none, m14)) := rfl
noncomputable def r_Int_putLimit : Nat → Nat → Nat → Int32 → Mm → Option Mm := ab_seal fun v0 v1 v2 v3 m => ab_rV (b_Int_putLimit_0 50000 v0 v1 v2 v3 m)
theorem r_Int_putLimit_eq (v0 : Nat) (v1 : Nat) (v2 : Nat) (v3 : Int32) (m : Mm) : r_Int_putLimit v0 v1 v2 v3 m = ab_rV (b_Int_putLimit_0 50000 v0 v1 v2 v3 m) := by
  unfold r_Int_putLimit
  rw [ab_seal_eq]
noncomputable def c_Int_putLimit : List AV → Mm → Option Mm := fun av m => match av with
  | [.inr (.inr (kv0, ov0)), .inr (.inr (kv1, ov1)), .inr (.inr (kv2, ov2)), .inl v3] => if kv0 = 13 then (if kv1 = 4 then (if kv2 = 22 then (ov0.bind fun v0 => ov1.bind fun v1 => ov2.bind fun v2 => r_Int_putLimit v0 v1 v2 v3 m) else none) else none) else none
  | _ => none
theorem c_Int_putLimit_inv {av : List AV} {m : Mm} {r : Mm} (h : c_Int_putLimit av m = some r) : ∃ (v0 : Nat) (v1 : Nat) (v2 : Nat) (v3 : Int32), av = [.inr (.inr (13, some v0)), .inr (.inr (4, some v1)), .inr (.inr (22, some v2)), .inl v3] ∧ r_Int_putLimit v0 v1 v2 v3 m = some r := by
  unfold c_Int_putLimit at h
  split at h
  · rename_i kv0 ov0 kv1 ov1 kv2 ov2 v3
    by_cases hkv0 : kv0 = 13
    case neg => rw [if_neg hkv0] at h; cases h
    rw [if_pos hkv0] at h
    subst hkv0
    by_cases hkv1 : kv1 = 4
    case neg => rw [if_neg hkv1] at h; cases h
    rw [if_pos hkv1] at h
    subst hkv1
    by_cases hkv2 : kv2 = 22
    case neg => rw [if_neg hkv2] at h; cases h
    rw [if_pos hkv2] at h
    subst hkv2
    obtain ⟨v0, hev0, h⟩ := Option.bind_eq_some_iff.mp h
    obtain ⟨v1, hev1, h⟩ := Option.bind_eq_some_iff.mp h
    obtain ⟨v2, hev2, h⟩ := Option.bind_eq_some_iff.mp h
    subst hev0
    subst hev1
    subst hev2
    exact ⟨v0, v1, v2, v3, rfl, h⟩
  · cases h
def cs_Int_putLimit : List Nat := [7, 28, 32, 41, 46, 52]
set_option maxRecDepth 100000 in
theorem E_Int_putLimit : ∀ (pc : Nat) (q : Ent), i_Int_putLimit pc = some q → ab_E KT CL ab_gW "StreamTransport$Intake" "putLimit" none prog_4_method_15_code s_Int_putLimit 5 pc q.1 q.2.1 q.2.2.1 q.2.2.2.1 q.2.2.2.2 := fun pc q hq =>
  ab_Eb_ok lc_Int lj_Int fl_Int (fpn_Int "putLimit") nw_Int na_Int nq_Int (ab_tab_all (t := t_Int_putLimit) (chk := fun pc q => ab_Eb none prog_4_method_15_code s_Int_putLimit 5 LC_Int LJ_Int FL_Int FPn_Int NW_Int NA_Int NQ_Int pc q.1 q.2.1 q.2.2.1 q.2.2.2.1 q.2.2.2.2) (by decide +kernel) hq)
set_option maxRecDepth 100000 in
theorem kp_Int_putLimit {av : List AV} {m : Mm} {r : Mm} (h : c_Int_putLimit av m = some r) : ab_kp m r := by
  obtain ⟨v0, v1, v2, v3, -, h⟩ := c_Int_putLimit_inv h
  rw [r_Int_putLimit_eq] at h
  have hV : ∀ a av m m', eV_Int_putLimit a av m = some m' → ab_kp m m' := ab_ev_all (P := fun _ m r => ab_kp m r) [(8, c_Row_put), (10, c_Row_putNumber)] (List.forall_mem_cons.mpr ⟨fun av m r h => kp_Row_put h, List.forall_mem_cons.mpr ⟨fun av m r h => kp_Row_putNumber h, fun q hq => by cases hq⟩⟩)
  have hI : ∀ a av m q, eI_Int_putLimit a av m = some q → ab_kp m q.2 := ab_ev_all (P := fun _ (m : Mm) (r : Int32 × Mm) => ab_kp m r.2) [(54, c_Int_limitFor), (4, c_X_sizeOf), (7, c_Row_hasRoomFor)] (List.forall_mem_cons.mpr ⟨fun av m r h => kp_Int_limitFor h, List.forall_mem_cons.mpr ⟨fun av m r h => kp_X_sizeOf h, List.forall_mem_cons.mpr ⟨fun av m r h => kp_Row_hasRoomFor h, fun q hq => by cases hq⟩⟩⟩)
  exact ab_kprel (ρ := .inl (none, r)) (ab_tab_isn (t := t_Int_putLimit) (by decide +kernel)) hV hI (ab_rV_inv h)
set_option maxRecDepth 100000 in
theorem cl_Int_putLimit (l : Launch) : ∀ (pc : Nat) (q : Ent), i_Int_putLimit pc = some q → ab_inv q.1 = true → ab_CR l KT CL none ab_gW "StreamTransport$Intake" prog_4_method_15_code 5 2 45 eV_Int_putLimit eI_Int_putLimit pc q := by
  intro pc q hq hi
  have hm : pc ∈ cs_Int_putLimit := ab_tab_cs (t := t_Int_putLimit) (by decide +kernel) hq hi
  simp only [cs_Int_putLimit, List.mem_cons, List.not_mem_nil, or_false] at hm
  rcases hm with rfl | rfl | rfl | rfl | rfl | rfl
  · cases (Option.some.inj hq : ((.invokevirtual 95, 54, 2, 1, 0) : Ent) = q)
    exact ab_crV (C := "StreamTransport$Intake") (by decide +kernel) cw_Int_limitFor (ab_gW_in 521 (by decide +kernel) rfl) is_Int_limitFor sl_Int_limitFor (by decide) (fun av m m' h => by cases h) (fun av m r h => cm_Int_limitFor l h) KT_nd
  · cases (Option.some.inj hq : ((.invokestatic 128, 4, 1, 1, 0) : Ent) = q)
    exact ab_crSN (by decide +kernel) cw_X_sizeOf (by decide +kernel) st_X_sizeOf (by decide) (fun av m m' h => by cases h) (fun av m r h => cm_X_sizeOf l h) KT_nd
  · cases (Option.some.inj hq : ((.invokevirtual 131, 7, 2, 1, 0) : Ent) = q)
    exact ab_crV (C := "StreamTransport$Row") (by decide +kernel) cw_Row_hasRoomFor (ab_gW_in 507 (by decide +kernel) rfl) is_Row_hasRoomFor sl_Row_hasRoomFor (by decide) (fun av m m' h => by cases h) (fun av m r h => cm_Row_hasRoomFor l h) KT_nd
  · cases (Option.some.inj hq : ((.invokevirtual 137, 8, 2, 0, 0) : Ent) = q)
    exact ab_crV (C := "StreamTransport$Row") (by decide +kernel) cw_Row_put (ab_gW_in 515 (by decide +kernel) rfl) is_Row_put sl_Row_put (by decide) (fun av m m' h => cm_Row_put l h) (fun av m r h => by cases h) KT_nd
  · cases (Option.some.inj hq : ((.invokevirtual 140, 10, 2, 0, 0) : Ent) = q)
    exact ab_crV (C := "StreamTransport$Row") (by decide +kernel) cw_Row_putNumber (ab_gW_in 516 (by decide +kernel) rfl) is_Row_putNumber sl_Row_putNumber (by decide) (fun av m m' h => cm_Row_putNumber l h) (fun av m r h => by cases h) KT_nd
  · cases (Option.some.inj hq : ((.invokevirtual 140, 10, 2, 0, 0) : Ent) = q)
    exact ab_crV (C := "StreamTransport$Row") (by decide +kernel) cw_Row_putNumber (ab_gW_in 516 (by decide +kernel) rfl) is_Row_putNumber sl_Row_putNumber (by decide) (fun av m m' h => cm_Row_putNumber l h) (fun av m r h => by cases h) KT_nd
theorem cw_Int_putLimit : ab_cw y_Int_putLimit prog_4_method_15_code 5 3 none := ⟨ab_gW_in 520 (by decide +kernel) rfl, ab_gW_in 66 (by decide +kernel) rfl, by decide +kernel, by decide +kernel, by decide +kernel⟩
theorem is_Int_putLimit : Cond.instanceMethod y_Int_putLimit ∈ ab_gW := ab_gW_in 519 (by decide +kernel) rfl
theorem sl_Int_putLimit : Cond.selects "StreamTransport$Intake" y_Int_putLimit y_Int_putLimit ∈ ab_gW := ab_gW_in 4 (by decide +kernel) rfl
set_option maxRecDepth 100000 in
theorem cm_Int_putLimit (l : Launch) {av : List AV} {m : Mm} {r : Mm} (h0 : c_Int_putLimit av m = some r) : ∃ (k q : Nat) (av' : List AV) (ci : Nat) (fs : List (Nat × Nat × Nat × Nat)) (z : vw_C), av = .inr (.inr (k, some q)) :: av' ∧ av'.length = 3 ∧ k ≠ 0 ∧ KT[k]? = some (.inl (ci, fs)) ∧ CL[ci]? = some z ∧ z.1 = "StreamTransport$Intake" ∧ ab_nos av' ∧ ab_Met l KT CL y_Int_putLimit (Cond.code y_Int_putLimit prog_4_method_15_code 5 none :: ab_gW) 2 45 none av m none r := by
  obtain ⟨v0, v1, v2, v3, hav, h⟩ := c_Int_putLimit_inv h0
  rw [r_Int_putLimit_eq] at h
  have hmo : ab_mo m r := ab_kp_mo (kp_Int_putLimit h0)
  subst hav
  exact ⟨_, _, _, _, _, _, rfl, rfl, by decide, rfl, rfl, rfl, (by intro v hv q e; subst e; simp at hv), ab_met (by decide +kernel) KT_0 KT_nd KT_k3 E_Int_putLimit (cl_Int_putLimit l) hmo (Nat.le_of_ble_eq_true rfl) (ab_rV_inv h) (fun v hv => by cases hv)⟩
/-! StreamTransport$Intake.putLimits(LStreamTransport$Row;LStreamTransport$Sent;)V -/
def y_Int_putLimits : MethodName := ⟨"StreamTransport$Intake", "putLimits", "(LStreamTransport$Row;LStreamTransport$Sent;)V"⟩
def t_Int_putLimits (pc : Nat) : Option Ent :=
  bif Nat.blt pc 10 then
    (bif Nat.blt pc 6 then
      (bif Nat.blt pc 2 then
        (bif Nat.blt pc 1 then
          (bif Nat.beq pc 0 then some (.aload_n 0, 0, 0, 0, 0) else none)
        else
          bif Nat.beq pc 1 then some (.aload_n 1, 1, 0, 0, 0) else none)
      else
        bif Nat.blt pc 3 then
          (bif Nat.beq pc 2 then some (.aload_n 2, 2, 0, 0, 0) else none)
        else
          bif Nat.beq pc 3 then some (.invokevirtual 120, 64, 3, 0, 0) else none)
    else
      bif Nat.blt pc 8 then
        (bif Nat.blt pc 7 then
          (bif Nat.beq pc 6 then some (.iconst 0, 0, 0, 0, 0) else none)
        else
          bif Nat.beq pc 7 then some (.istore_n 3, 3, 0, 0, 0) else none)
      else
        bif Nat.blt pc 9 then
          (bif Nat.beq pc 8 then some (.iload_n 3, 3, 0, 0, 0) else none)
        else
          bif Nat.beq pc 9 then some (.iconst 4, 0, 0, 0, 4) else none)
  else
    bif Nat.blt pc 16 then
      (bif Nat.blt pc 14 then
        (bif Nat.blt pc 13 then
          (bif Nat.beq pc 10 then some (.if_icmp .ge (16), 26, 0, 0, 0) else none)
        else
          bif Nat.beq pc 13 then some (.aload_n 0, 0, 0, 0, 0) else none)
      else
        bif Nat.blt pc 15 then
          (bif Nat.beq pc 14 then some (.aload_n 1, 1, 0, 0, 0) else none)
        else
          bif Nat.beq pc 15 then some (.aload_n 2, 2, 0, 0, 0) else none)
    else
      bif Nat.blt pc 20 then
        (bif Nat.blt pc 17 then
          (bif Nat.beq pc 16 then some (.iload_n 3, 3, 0, 0, 0) else none)
        else
          bif Nat.beq pc 17 then some (.invokevirtual 124, 65, 4, 0, 0) else none)
      else
        bif Nat.blt pc 23 then
          (bif Nat.beq pc 20 then some (.iinc 3 1, 3, 0, 0, 1) else none)
        else
          bif Nat.blt pc 26 then
            (bif Nat.beq pc 23 then some (.goto (-15), 8, 0, 0, 0) else none)
          else
            bif Nat.beq pc 26 then some (.return_, 0, 0, 0, 0) else none
def i_Int_putLimits : Nat → Option Ent := ab_tab 27 t_Int_putLimits
def h_Int_putLimits (pc : Nat) : Nat × List Bool := bif Nat.beq pc 8 then (1, [true, true, true, true]) else (0, [])
def s_Int_putLimits (pc : Nat) : List (Int32 × Nat) × Nat := ([], 0)
noncomputable def eV_Int_putLimits : Nat → List AV → Mm → Option Mm := ab_ev [(64, c_Int_putLimitAll), (65, c_Int_putLimit)]
noncomputable def eI_Int_putLimits : Nat → List AV → Mm → Option (Int32 × Mm) := ab_ev []
noncomputable def b_Int_putLimits_0 (f : Nat) (v0 : Nat) (v1 : Nat) (v2 : Nat) (m : Mm) : Option Rs := ab_ex KT none s_Int_putLimits eV_Int_putLimits eI_Int_putLimits i_Int_putLimits h_Int_putLimits f 0 [some (.inr (.inr (13, some v0))), some (.inr (.inr (4, some v1))), some (.inr (.inr (22, some v2))), none] [] m
noncomputable def b_Int_putLimits_8 (f : Nat) (v0 : Nat) (v1 : Nat) (v2 : Nat) (v3 : Int32) (m : Mm) : Option Rs := ab_ex KT none s_Int_putLimits eV_Int_putLimits eI_Int_putLimits i_Int_putLimits h_Int_putLimits f 8 [some (.inr (.inr (13, some v0))), some (.inr (.inr (4, some v1))), some (.inr (.inr (22, some v2))), some (.inl v3)] [] m
set_option maxRecDepth 100000 in
set_option maxHeartbeats 4000000 in
theorem b_Int_putLimits_0_eq (f : Nat) (v0 : Nat) (v1 : Nat) (v2 : Nat) (m : Mm) : b_Int_putLimits_0 (f + 1) v0 v1 v2 m =
    (r_Int_putLimitAll v0 v1 v2 m).bind fun m1 =>
    b_Int_putLimits_8 f v0 v1 v2 (0 : Int32) m1 := rfl
set_option maxRecDepth 100000 in
set_option maxHeartbeats 4000000 in
theorem b_Int_putLimits_8_eq (f : Nat) (v0 : Nat) (v1 : Nat) (v2 : Nat) (v3 : Int32) (m : Mm) : b_Int_putLimits_8 (f + 1) v0 v1 v2 v3 m =
    if (4 : Int32) ≤ v3 then
      some (.inl (none, m))
    else
      (r_Int_putLimit v0 v1 v2 v3 m).bind fun m1 =>
      ab_let (v3 + (1 : Int32)) fun x2 =>
      b_Int_putLimits_8 f v0 v1 v2 x2 m1 := rfl
noncomputable def r_Int_putLimits : Nat → Nat → Nat → Mm → Option Mm := ab_seal fun v0 v1 v2 m => ab_rV (b_Int_putLimits_0 50000 v0 v1 v2 m)
theorem r_Int_putLimits_eq (v0 : Nat) (v1 : Nat) (v2 : Nat) (m : Mm) : r_Int_putLimits v0 v1 v2 m = ab_rV (b_Int_putLimits_0 50000 v0 v1 v2 m) := by
  unfold r_Int_putLimits
  rw [ab_seal_eq]
noncomputable def c_Int_putLimits : List AV → Mm → Option Mm := fun av m => match av with
  | [.inr (.inr (kv0, ov0)), .inr (.inr (kv1, ov1)), .inr (.inr (kv2, ov2))] => if kv0 = 13 then (if kv1 = 4 then (if kv2 = 22 then (ov0.bind fun v0 => ov1.bind fun v1 => ov2.bind fun v2 => r_Int_putLimits v0 v1 v2 m) else none) else none) else none
  | _ => none
theorem c_Int_putLimits_inv {av : List AV} {m : Mm} {r : Mm} (h : c_Int_putLimits av m = some r) : ∃ (v0 : Nat) (v1 : Nat) (v2 : Nat), av = [.inr (.inr (13, some v0)), .inr (.inr (4, some v1)), .inr (.inr (22, some v2))] ∧ r_Int_putLimits v0 v1 v2 m = some r := by
  unfold c_Int_putLimits at h
  split at h
  · rename_i kv0 ov0 kv1 ov1 kv2 ov2
    by_cases hkv0 : kv0 = 13
    case neg => rw [if_neg hkv0] at h; cases h
    rw [if_pos hkv0] at h
    subst hkv0
    by_cases hkv1 : kv1 = 4
    case neg => rw [if_neg hkv1] at h; cases h
    rw [if_pos hkv1] at h
    subst hkv1
    by_cases hkv2 : kv2 = 22
    case neg => rw [if_neg hkv2] at h; cases h
    rw [if_pos hkv2] at h
    subst hkv2
    obtain ⟨v0, hev0, h⟩ := Option.bind_eq_some_iff.mp h
    obtain ⟨v1, hev1, h⟩ := Option.bind_eq_some_iff.mp h
    obtain ⟨v2, hev2, h⟩ := Option.bind_eq_some_iff.mp h
    subst hev0
    subst hev1
    subst hev2
    exact ⟨v0, v1, v2, rfl, h⟩
  · cases h
def cs_Int_putLimits : List Nat := [3, 17]
set_option maxRecDepth 100000 in
theorem E_Int_putLimits : ∀ (pc : Nat) (q : Ent), i_Int_putLimits pc = some q → ab_E KT CL ab_gW "StreamTransport$Intake" "putLimits" none prog_4_method_13_code s_Int_putLimits 4 pc q.1 q.2.1 q.2.2.1 q.2.2.2.1 q.2.2.2.2 := fun pc q hq =>
  ab_Eb_ok lc_Int lj_Int fl_Int (fpn_Int "putLimits") nw_Int na_Int nq_Int (ab_tab_all (t := t_Int_putLimits) (chk := fun pc q => ab_Eb none prog_4_method_13_code s_Int_putLimits 4 LC_Int LJ_Int FL_Int FPn_Int NW_Int NA_Int NQ_Int pc q.1 q.2.1 q.2.2.1 q.2.2.2.1 q.2.2.2.2) (by decide +kernel) hq)
set_option maxRecDepth 100000 in
theorem kp_Int_putLimits {av : List AV} {m : Mm} {r : Mm} (h : c_Int_putLimits av m = some r) : ab_kp m r := by
  obtain ⟨v0, v1, v2, -, h⟩ := c_Int_putLimits_inv h
  rw [r_Int_putLimits_eq] at h
  have hV : ∀ a av m m', eV_Int_putLimits a av m = some m' → ab_kp m m' := ab_ev_all (P := fun _ m r => ab_kp m r) [(64, c_Int_putLimitAll), (65, c_Int_putLimit)] (List.forall_mem_cons.mpr ⟨fun av m r h => kp_Int_putLimitAll h, List.forall_mem_cons.mpr ⟨fun av m r h => kp_Int_putLimit h, fun q hq => by cases hq⟩⟩)
  have hI : ∀ a av m q, eI_Int_putLimits a av m = some q → ab_kp m q.2 := ab_ev_all (P := fun _ (m : Mm) (r : Int32 × Mm) => ab_kp m r.2) [] (fun q hq => by cases hq)
  exact ab_kprel (ρ := .inl (none, r)) (ab_tab_isn (t := t_Int_putLimits) (by decide +kernel)) hV hI (ab_rV_inv h)
set_option maxRecDepth 100000 in
theorem cl_Int_putLimits (l : Launch) : ∀ (pc : Nat) (q : Ent), i_Int_putLimits pc = some q → ab_inv q.1 = true → ab_CR l KT CL none ab_gW "StreamTransport$Intake" prog_4_method_13_code 4 3 69 eV_Int_putLimits eI_Int_putLimits pc q := by
  intro pc q hq hi
  have hm : pc ∈ cs_Int_putLimits := ab_tab_cs (t := t_Int_putLimits) (by decide +kernel) hq hi
  simp only [cs_Int_putLimits, List.mem_cons, List.not_mem_nil, or_false] at hm
  rcases hm with rfl | rfl
  · cases (Option.some.inj hq : ((.invokevirtual 120, 64, 3, 0, 0) : Ent) = q)
    exact ab_crV (C := "StreamTransport$Intake") (by decide +kernel) cw_Int_putLimitAll (ab_gW_in 491 (by decide +kernel) rfl) is_Int_putLimitAll sl_Int_putLimitAll (by decide) (fun av m m' h => cm_Int_putLimitAll l h) (fun av m r h => by cases h) KT_nd
  · cases (Option.some.inj hq : ((.invokevirtual 124, 65, 4, 0, 0) : Ent) = q)
    exact ab_crV (C := "StreamTransport$Intake") (by decide +kernel) cw_Int_putLimit (ab_gW_in 517 (by decide +kernel) rfl) is_Int_putLimit sl_Int_putLimit (by decide) (fun av m m' h => cm_Int_putLimit l h) (fun av m r h => by cases h) KT_nd
theorem cw_Int_putLimits : ab_cw y_Int_putLimits prog_4_method_13_code 4 2 none := ⟨ab_gW_in 490 (by decide +kernel) rfl, ab_gW_in 66 (by decide +kernel) rfl, by decide +kernel, by decide +kernel, by decide +kernel⟩
theorem is_Int_putLimits : Cond.instanceMethod y_Int_putLimits ∈ ab_gW := ab_gW_in 488 (by decide +kernel) rfl
theorem sl_Int_putLimits : Cond.selects "StreamTransport$Intake" y_Int_putLimits y_Int_putLimits ∈ ab_gW := ab_gW_in 489 (by decide +kernel) rfl
set_option maxRecDepth 100000 in
theorem cm_Int_putLimits (l : Launch) {av : List AV} {m : Mm} {r : Mm} (h0 : c_Int_putLimits av m = some r) : ∃ (k q : Nat) (av' : List AV) (ci : Nat) (fs : List (Nat × Nat × Nat × Nat)) (z : vw_C), av = .inr (.inr (k, some q)) :: av' ∧ av'.length = 2 ∧ k ≠ 0 ∧ KT[k]? = some (.inl (ci, fs)) ∧ CL[ci]? = some z ∧ z.1 = "StreamTransport$Intake" ∧ ab_nos av' ∧ ab_Met l KT CL y_Int_putLimits (Cond.code y_Int_putLimits prog_4_method_13_code 4 none :: ab_gW) 3 69 none av m none r := by
  obtain ⟨v0, v1, v2, hav, h⟩ := c_Int_putLimits_inv h0
  rw [r_Int_putLimits_eq] at h
  have hmo : ab_mo m r := ab_kp_mo (kp_Int_putLimits h0)
  subst hav
  exact ⟨_, _, _, _, _, _, rfl, rfl, by decide, rfl, rfl, rfl, (by intro v hv q e; subst e; simp at hv), ab_met (by decide +kernel) KT_0 KT_nd KT_k3 E_Int_putLimits (cl_Int_putLimits l) hmo (Nat.le_of_ble_eq_true rfl) (ab_rV_inv h) (fun v hv => by cases hv)⟩
end
