section
def FLp_X : List ((Nat × Nat × Nat) × Nat) := [((11, 9, 0), 341), ((17, 9, 1), 342), ((22, 9, 2), 343), ((26, 9, 3), 344), ((44, 0, 2), 296), ((48, 4, 0), 284), ((63, 5, 2), 247), ((74, 5, 5), 257), ((78, 5, 6), 260), ((81, 0, 1), 294), ((85, 2, 0), 214), ((90, 1, 5), 196), ((93, 1, 1), 186), ((96, 1, 3), 190), ((120, 9, 4), 345), ((123, 9, 6), 347), ((137, 7, 2), 107), ((148, 7, 1), 104), ((149, 7, 0), 101), ((152, 9, 5), 346), ((172, 0, 7), 304), ((175, 0, 6), 302), ((181, 4, 1), 286), ((184, 2, 3), 218), ((187, 0, 3), 298), ((191, 3, 1), 130), ((196, 0, 8), 306), ((199, 5, 3), 252), ((205, 5, 4), 255), ((211, 1, 4), 193)]
def FL_X : List (Nat × Nat × Nat) := [(11, 9, 0), (17, 9, 1), (22, 9, 2), (26, 9, 3), (44, 0, 2), (48, 4, 0), (63, 5, 2), (74, 5, 5), (78, 5, 6), (81, 0, 1), (85, 2, 0), (90, 1, 5), (93, 1, 1), (96, 1, 3), (120, 9, 4), (123, 9, 6), (137, 7, 2), (148, 7, 1), (149, 7, 0), (152, 9, 5), (172, 0, 7), (175, 0, 6), (181, 4, 1), (184, 2, 3), (187, 0, 3), (191, 3, 1), (196, 0, 8), (199, 5, 3), (205, 5, 4), (211, 1, 4)]
theorem fl_X : ∀ q ∈ FL_X, ab_fld CL ab_gW "StreamTransport" q.1 q.2.1 q.2.2 := ab_flb_ok (own := "StreamTransport") (l := FLp_X) (by decide +kernel)
def FPnp_X : List ((Nat × Nat × Nat) × Nat) := [((63, 5, 2), 247), ((74, 5, 5), 257), ((78, 5, 6), 260), ((90, 1, 5), 196), ((93, 1, 1), 186), ((96, 1, 3), 190), ((120, 9, 4), 345), ((123, 9, 6), 347), ((137, 7, 2), 107), ((148, 7, 1), 104), ((152, 9, 5), 346), ((172, 0, 7), 304), ((175, 0, 6), 302), ((181, 4, 1), 286), ((184, 2, 3), 218), ((191, 3, 1), 130), ((196, 0, 8), 306), ((199, 5, 3), 252), ((205, 5, 4), 255), ((211, 1, 4), 193)]
def FPn_X : List (Nat × Nat × Nat) := [(63, 5, 2), (74, 5, 5), (78, 5, 6), (90, 1, 5), (93, 1, 1), (96, 1, 3), (120, 9, 4), (123, 9, 6), (137, 7, 2), (148, 7, 1), (152, 9, 5), (172, 0, 7), (175, 0, 6), (181, 4, 1), (184, 2, 3), (191, 3, 1), (196, 0, 8), (199, 5, 3), (205, 5, 4), (211, 1, 4)]
theorem fpn_X (nm : String) : ∀ q ∈ FPn_X, ∃ ty, ab_fldp CL ab_gW "StreamTransport" nm q.1 q.2.1 q.2.2 ty ∧ ∀ (k t r k' d' : Nat), ab_fs KT q.2.1 q.2.2 k = some (t, r, k', d') → (t = 0 → ty = .int) ∧ (t = 1 → ty = .boolean) ∧ (t = 2 → ((∃ n, ty = .object n) ∨ ∃ t, ty = .array t) ∧ k' ≠ 0) := ab_fpb_ok (own := "StreamTransport") (nm := nm) (l := FPnp_X) (ab_fpn_ok (by decide +kernel))
def FPip_X : List ((Nat × Nat × Nat) × Nat) := [((11, 9, 0), 341), ((17, 9, 1), 342), ((22, 9, 2), 343), ((26, 9, 3), 344), ((63, 5, 2), 247), ((74, 5, 5), 257), ((78, 5, 6), 260), ((90, 1, 5), 196), ((93, 1, 1), 186), ((96, 1, 3), 190), ((120, 9, 4), 345), ((123, 9, 6), 347), ((137, 7, 2), 107), ((148, 7, 1), 104), ((152, 9, 5), 346), ((172, 0, 7), 304), ((175, 0, 6), 302), ((181, 4, 1), 286), ((184, 2, 3), 218), ((191, 3, 1), 130), ((196, 0, 8), 306), ((199, 5, 3), 252), ((205, 5, 4), 255), ((211, 1, 4), 193)]
def FPi_X : List (Nat × Nat × Nat) := [(11, 9, 0), (17, 9, 1), (22, 9, 2), (26, 9, 3), (63, 5, 2), (74, 5, 5), (78, 5, 6), (90, 1, 5), (93, 1, 1), (96, 1, 3), (120, 9, 4), (123, 9, 6), (137, 7, 2), (148, 7, 1), (152, 9, 5), (172, 0, 7), (175, 0, 6), (181, 4, 1), (184, 2, 3), (191, 3, 1), (196, 0, 8), (199, 5, 3), (205, 5, 4), (211, 1, 4)]
theorem fpi_X : ∀ q ∈ FPi_X, ∃ ty, ab_fldp CL ab_gW "StreamTransport" "<init>" q.1 q.2.1 q.2.2 ty ∧ ∀ (k t r k' d' : Nat), ab_fs KT q.2.1 q.2.2 k = some (t, r, k', d') → (t = 0 → ty = .int) ∧ (t = 1 → ty = .boolean) ∧ (t = 2 → ((∃ n, ty = .object n) ∨ ∃ t, ty = .array t) ∧ k' ≠ 0) := ab_fpb_ok (own := "StreamTransport") (nm := "<init>") (l := FPip_X) (by decide +kernel)
def LCp_X : List ((Nat × Int32) × Nat) := []
def LC_X : List (Nat × Int32) := []
theorem lc_X : ∀ q ∈ LC_X, Cond.constant "StreamTransport" q.1 q.2 ∈ ab_gW := ab_lcb (own := "StreamTransport") (l := LCp_X) (by decide +kernel)
def LJp_X : List ((Nat × Nat) × Nat) := []
def LJ_X : List (Nat × Nat) := []
theorem lj_X : ∀ q ∈ LJ_X, Cond.constantLong "StreamTransport" q.1 (Int64.ofNat q.2) ∈ ab_gW := ab_ljb (own := "StreamTransport") (l := LJp_X) (by decide +kernel)
def NWp_X : List ((Nat × Nat) × Nat × Nat × Nat) := [((15, 72), 92, 94, 62), ((9, 73), 90, 116, 63)]
def NW_X : List (Nat × Nat) := [(15, 72), (9, 73)]
theorem nw_X : ∀ q ∈ NW_X, ab_newok KT CL ab_gW "StreamTransport" q.1 q.2 := ab_nwb_ok (own := "StreamTransport") (l := NWp_X) (by decide +kernel)
def NQp_X : List ((Nat × Nat) × Nat) := [((9, 70), 90), ((15, 71), 92)]
def NQ_X : List (Nat × Nat) := [(9, 70), (15, 71)]
theorem nq_X : ∀ q ∈ NQ_X, ab_nqok KT CL ab_gW "StreamTransport" q.1 q.2 := ab_nqb_ok (own := "StreamTransport") (l := NQp_X) (by decide +kernel)
def NA_X : List (Nat × Nat) := [(0, 6)]
theorem na_X : ∀ q ∈ NA_X, (q.1 = 0 → ab_naok KT CL ab_gW .int q.2) ∧ (q.1 = 1 → ab_naok KT CL ab_gW .boolean q.2) ∧ (q.1 = 2 → ab_naok KT CL ab_gW .long q.2) := ab_nab_ok (by decide +kernel)
/-! StreamTransport.sizeOf(I)I -/
def y_X_sizeOf : MethodName := ⟨"StreamTransport", "sizeOf", "(I)I"⟩
def t_X_sizeOf (pc : Nat) : Option Ent :=
  bif Nat.blt pc 9 then
    (bif Nat.blt pc 6 then
      (bif Nat.blt pc 1 then
        (bif Nat.beq pc 0 then some (.iload_n 0, 0, 0, 0, 0) else none)
      else
        bif Nat.blt pc 3 then
          (bif Nat.beq pc 1 then some (.bipush 64, 0, 0, 0, 64) else none)
        else
          bif Nat.beq pc 3 then some (.if_icmp .ge (5), 8, 0, 0, 0) else none)
    else
      bif Nat.blt pc 7 then
        (bif Nat.beq pc 6 then some (.iconst 1, 0, 0, 0, 1) else none)
      else
        bif Nat.blt pc 8 then
          (bif Nat.beq pc 7 then some (.ireturn, 0, 0, 0, 0) else none)
        else
          bif Nat.beq pc 8 then some (.iload_n 0, 0, 0, 0, 0) else none)
  else
    bif Nat.blt pc 16 then
      (bif Nat.blt pc 12 then
        (bif Nat.beq pc 9 then some (.sipush 16384, 0, 0, 0, 16384) else none)
      else
        bif Nat.blt pc 15 then
          (bif Nat.beq pc 12 then some (.if_icmp .ge (7), 19, 0, 0, 0) else none)
        else
          bif Nat.beq pc 15 then some (.iconst 2, 0, 0, 0, 2) else none)
    else
      bif Nat.blt pc 19 then
        (bif Nat.beq pc 16 then some (.goto 4, 20, 0, 0, 0) else none)
      else
        bif Nat.blt pc 20 then
          (bif Nat.beq pc 19 then some (.iconst 4, 0, 0, 0, 4) else none)
        else
          bif Nat.beq pc 20 then some (.ireturn, 0, 0, 0, 0) else none
def i_X_sizeOf : Nat → Option Ent := ab_tab 21 t_X_sizeOf
def h_X_sizeOf (pc : Nat) : Nat × List Bool := (0, [])
def s_X_sizeOf (pc : Nat) : List (Int32 × Nat) × Nat := ([], 0)
noncomputable def eV_X_sizeOf : Nat → List AV → Mm → Option Mm := ab_ev []
noncomputable def eI_X_sizeOf : Nat → List AV → Mm → Option (Int32 × Mm) := ab_ev []
noncomputable def b_X_sizeOf_0 (f : Nat) (v0 : Int32) (m : Mm) : Option Rs := ab_ex KT none s_X_sizeOf eV_X_sizeOf eI_X_sizeOf i_X_sizeOf h_X_sizeOf f 0 [some (.inl v0)] [] m
set_option maxRecDepth 100000 in
set_option maxHeartbeats 4000000 in
theorem b_X_sizeOf_0_eq (f : Nat) (v0 : Int32) (m : Mm) : b_X_sizeOf_0 (f + 1) v0 m =
    if (64 : Int32) ≤ v0 then
      if (16384 : Int32) ≤ v0 then
        some (.inl (some (.inl (4 : Int32)), m))
      else
        some (.inl (some (.inl (2 : Int32)), m))
    else
      some (.inl (some (.inl (1 : Int32)), m)) := rfl
noncomputable def r_X_sizeOf : Int32 → Mm → Option (Int32 × Mm) := ab_seal fun v0 m => ab_rI (b_X_sizeOf_0 50000 v0 m)
theorem r_X_sizeOf_eq (v0 : Int32) (m : Mm) : r_X_sizeOf v0 m = ab_rI (b_X_sizeOf_0 50000 v0 m) := by
  unfold r_X_sizeOf
  rw [ab_seal_eq]
noncomputable def c_X_sizeOf : List AV → Mm → Option (Int32 × Mm) := fun av m => match av with
  | [.inl v0] => r_X_sizeOf v0 m
  | _ => none
theorem c_X_sizeOf_inv {av : List AV} {m : Mm} {r : Int32 × Mm} (h : c_X_sizeOf av m = some r) : ∃ (v0 : Int32), av = [.inl v0] ∧ r_X_sizeOf v0 m = some r := by
  unfold c_X_sizeOf at h
  split at h
  · rename_i v0
    exact ⟨v0, rfl, h⟩
  · cases h
def cs_X_sizeOf : List Nat := []
set_option maxRecDepth 100000 in
theorem E_X_sizeOf : ∀ (pc : Nat) (q : Ent), i_X_sizeOf pc = some q → ab_E KT CL ab_gW "StreamTransport" "sizeOf" (some .int) prog_1_method_26_code s_X_sizeOf 1 pc q.1 q.2.1 q.2.2.1 q.2.2.2.1 q.2.2.2.2 := fun pc q hq =>
  ab_Eb_ok lc_X lj_X fl_X (fpn_X "sizeOf") nw_X na_X nq_X (ab_tab_all (t := t_X_sizeOf) (chk := fun pc q => ab_Eb (some .int) prog_1_method_26_code s_X_sizeOf 1 LC_X LJ_X FL_X FPn_X NW_X NA_X NQ_X pc q.1 q.2.1 q.2.2.1 q.2.2.2.1 q.2.2.2.2) (by decide +kernel) hq)
set_option maxRecDepth 100000 in
theorem kp_X_sizeOf {av : List AV} {m : Mm} {r : Int32 × Mm} (h : c_X_sizeOf av m = some r) : ab_kp m r.2 := by
  obtain ⟨v0, -, h⟩ := c_X_sizeOf_inv h
  rw [r_X_sizeOf_eq] at h
  have hV : ∀ a av m m', eV_X_sizeOf a av m = some m' → ab_kp m m' := ab_ev_all (P := fun _ m r => ab_kp m r) [] (fun q hq => by cases hq)
  have hI : ∀ a av m q, eI_X_sizeOf a av m = some q → ab_kp m q.2 := ab_ev_all (P := fun _ (m : Mm) (r : Int32 × Mm) => ab_kp m r.2) [] (fun q hq => by cases hq)
  exact ab_kprel (ρ := .inl (some (.inl r.1), r.2)) (ab_tab_isn (t := t_X_sizeOf) (by decide +kernel)) hV hI (ab_rI_inv h)
set_option maxRecDepth 100000 in
theorem cl_X_sizeOf (l : Launch) : ∀ (pc : Nat) (q : Ent), i_X_sizeOf pc = some q → ab_inv q.1 = true → ab_CR l KT CL none ab_gW "StreamTransport" prog_1_method_26_code 1 0 0 eV_X_sizeOf eI_X_sizeOf pc q := by
  intro pc q hq hi
  have hm : pc ∈ cs_X_sizeOf := ab_tab_cs (t := t_X_sizeOf) (by decide +kernel) hq hi
  cases hm
theorem cw_X_sizeOf : ab_cw y_X_sizeOf prog_1_method_26_code 1 1 (some .int) := ⟨ab_gW_in 485 (by decide +kernel) rfl, ab_gW_in 61 (by decide +kernel) rfl, by decide +kernel, by decide +kernel, by decide +kernel⟩
theorem st_X_sizeOf : Cond.static y_X_sizeOf ∈ ab_gW := ab_gW_in 484 (by decide +kernel) rfl
set_option maxRecDepth 100000 in
theorem cm_X_sizeOf (l : Launch) {av : List AV} {m : Mm} {r : Int32 × Mm} (h0 : c_X_sizeOf av m = some r) : av.length = 1 ∧ ab_nos av ∧ ab_Met l KT CL y_X_sizeOf (Cond.code y_X_sizeOf prog_1_method_26_code 1 (some .int) :: ab_gW) 0 0 none av m (some (.inl r.1)) r.2 := by
  obtain ⟨v0, hav, h⟩ := c_X_sizeOf_inv h0
  rw [r_X_sizeOf_eq] at h
  have hmo : ab_mo m r.2 := ab_kp_mo (kp_X_sizeOf h0)
  subst hav
  exact ⟨rfl, (by intro v hv q e; subst e; simp at hv), ab_met (by decide +kernel) KT_0 KT_nd KT_k3 E_X_sizeOf (cl_X_sizeOf l) hmo (Nat.le_of_ble_eq_true rfl) (ab_rI_inv h) (fun v hv => by cases hv; exact ⟨_, rfl⟩)⟩
/-! StreamTransport.byteOf(JI)I -/
def y_X_byteOf : MethodName := ⟨"StreamTransport", "byteOf", "(JI)I"⟩
def t_X_byteOf (pc : Nat) : Option Ent :=
  bif Nat.blt pc 5 then
    (bif Nat.blt pc 3 then
      (bif Nat.blt pc 1 then
        (bif Nat.beq pc 0 then some (.lload_n 0, 0, 0, 0, 0) else none)
      else
        bif Nat.beq pc 1 then some (.bipush 8, 0, 0, 0, 8) else none)
    else
      bif Nat.blt pc 4 then
        (bif Nat.beq pc 3 then some (.iload_n 2, 2, 0, 0, 0) else none)
      else
        bif Nat.beq pc 4 then some (.imul, 0, 0, 0, 0) else none)
  else
    bif Nat.blt pc 7 then
      (bif Nat.blt pc 6 then
        (bif Nat.beq pc 5 then some (.lushr, 0, 0, 0, 0) else none)
      else
        bif Nat.beq pc 6 then some (.l2i, 0, 0, 0, 0) else none)
    else
      bif Nat.blt pc 10 then
        (bif Nat.beq pc 7 then some (.sipush 255, 0, 0, 0, 255) else none)
      else
        bif Nat.blt pc 11 then
          (bif Nat.beq pc 10 then some (.iand, 0, 0, 0, 0) else none)
        else
          bif Nat.beq pc 11 then some (.ireturn, 0, 0, 0, 0) else none
def i_X_byteOf : Nat → Option Ent := ab_tab 12 t_X_byteOf
def h_X_byteOf (pc : Nat) : Nat × List Bool := (0, [])
def s_X_byteOf (pc : Nat) : List (Int32 × Nat) × Nat := ([], 0)
noncomputable def eV_X_byteOf : Nat → List AV → Mm → Option Mm := ab_ev []
noncomputable def eI_X_byteOf : Nat → List AV → Mm → Option (Int32 × Mm) := ab_ev []
noncomputable def b_X_byteOf_0 (f : Nat) (v0 : Int64) (v2 : Int32) (m : Mm) : Option Rs := ab_ex KT none s_X_byteOf eV_X_byteOf eI_X_byteOf i_X_byteOf h_X_byteOf f 0 [some (.inr (.inl v0)), none, some (.inl v2)] [] m
set_option maxRecDepth 100000 in
set_option maxHeartbeats 4000000 in
theorem b_X_byteOf_0_eq (f : Nat) (v0 : Int64) (v2 : Int32) (m : Mm) : b_X_byteOf_0 (f + 1) v0 v2 m =
    some (.inl (some (.inl ((((v0).toUInt64 >>> ((((8 : Int32) * v2)).toInt64.toUInt64 &&& Int64.toUInt64 63)).toInt64).toInt32 &&& (255 : Int32))), m)) := rfl
noncomputable def r_X_byteOf : Int64 → Int32 → Mm → Option (Int32 × Mm) := ab_seal fun v0 v2 m => ab_rI (b_X_byteOf_0 50000 v0 v2 m)
theorem r_X_byteOf_eq (v0 : Int64) (v2 : Int32) (m : Mm) : r_X_byteOf v0 v2 m = ab_rI (b_X_byteOf_0 50000 v0 v2 m) := by
  unfold r_X_byteOf
  rw [ab_seal_eq]
noncomputable def c_X_byteOf : List AV → Mm → Option (Int32 × Mm) := fun av m => match av with
  | [.inr (.inl v0), .inl v2] => r_X_byteOf v0 v2 m
  | _ => none
theorem c_X_byteOf_inv {av : List AV} {m : Mm} {r : Int32 × Mm} (h : c_X_byteOf av m = some r) : ∃ (v0 : Int64) (v2 : Int32), av = [.inr (.inl v0), .inl v2] ∧ r_X_byteOf v0 v2 m = some r := by
  unfold c_X_byteOf at h
  split at h
  · rename_i v0 v2
    exact ⟨v0, v2, rfl, h⟩
  · cases h
def cs_X_byteOf : List Nat := []
set_option maxRecDepth 100000 in
theorem E_X_byteOf : ∀ (pc : Nat) (q : Ent), i_X_byteOf pc = some q → ab_E KT CL ab_gW "StreamTransport" "byteOf" (some .int) prog_1_method_25_code s_X_byteOf 3 pc q.1 q.2.1 q.2.2.1 q.2.2.2.1 q.2.2.2.2 := fun pc q hq =>
  ab_Eb_ok lc_X lj_X fl_X (fpn_X "byteOf") nw_X na_X nq_X (ab_tab_all (t := t_X_byteOf) (chk := fun pc q => ab_Eb (some .int) prog_1_method_25_code s_X_byteOf 3 LC_X LJ_X FL_X FPn_X NW_X NA_X NQ_X pc q.1 q.2.1 q.2.2.1 q.2.2.2.1 q.2.2.2.2) (by decide +kernel) hq)
set_option maxRecDepth 100000 in
theorem kp_X_byteOf {av : List AV} {m : Mm} {r : Int32 × Mm} (h : c_X_byteOf av m = some r) : ab_kp m r.2 := by
  obtain ⟨v0, v2, -, h⟩ := c_X_byteOf_inv h
  rw [r_X_byteOf_eq] at h
  have hV : ∀ a av m m', eV_X_byteOf a av m = some m' → ab_kp m m' := ab_ev_all (P := fun _ m r => ab_kp m r) [] (fun q hq => by cases hq)
  have hI : ∀ a av m q, eI_X_byteOf a av m = some q → ab_kp m q.2 := ab_ev_all (P := fun _ (m : Mm) (r : Int32 × Mm) => ab_kp m r.2) [] (fun q hq => by cases hq)
  exact ab_kprel (ρ := .inl (some (.inl r.1), r.2)) (ab_tab_isn (t := t_X_byteOf) (by decide +kernel)) hV hI (ab_rI_inv h)
set_option maxRecDepth 100000 in
theorem cl_X_byteOf (l : Launch) : ∀ (pc : Nat) (q : Ent), i_X_byteOf pc = some q → ab_inv q.1 = true → ab_CR l KT CL none ab_gW "StreamTransport" prog_1_method_25_code 3 0 0 eV_X_byteOf eI_X_byteOf pc q := by
  intro pc q hq hi
  have hm : pc ∈ cs_X_byteOf := ab_tab_cs (t := t_X_byteOf) (by decide +kernel) hq hi
  cases hm
theorem cw_X_byteOf : ab_cw y_X_byteOf prog_1_method_25_code 3 2 (some .int) := ⟨ab_gW_in 779 (by decide +kernel) rfl, ab_gW_in 61 (by decide +kernel) rfl, by decide +kernel, by decide +kernel, by decide +kernel⟩
theorem st_X_byteOf : Cond.static y_X_byteOf ∈ ab_gW := ab_gW_in 778 (by decide +kernel) rfl
set_option maxRecDepth 100000 in
theorem cm_X_byteOf (l : Launch) {av : List AV} {m : Mm} {r : Int32 × Mm} (h0 : c_X_byteOf av m = some r) : av.length = 2 ∧ ab_nos av ∧ ab_Met l KT CL y_X_byteOf (Cond.code y_X_byteOf prog_1_method_25_code 3 (some .int) :: ab_gW) 0 0 none av m (some (.inl r.1)) r.2 := by
  obtain ⟨v0, v2, hav, h⟩ := c_X_byteOf_inv h0
  rw [r_X_byteOf_eq] at h
  have hmo : ab_mo m r.2 := ab_kp_mo (kp_X_byteOf h0)
  subst hav
  exact ⟨rfl, (by intro v hv q e; subst e; simp at hv), ab_met (by decide +kernel) KT_0 KT_nd KT_k3 E_X_byteOf (cl_X_byteOf l) hmo (Nat.le_of_ble_eq_true rfl) (ab_rI_inv h) (fun v hv => by cases hv; exact ⟨_, rfl⟩)⟩
end
