section
/-! StreamTransport.isEnd(I)Z -/
def y_X_isEnd : MethodName := ⟨"StreamTransport", "isEnd", "(I)Z"⟩
def t_X_isEnd (pc : Nat) : Option Ent :=
  bif Nat.blt pc 6 then
    (bif Nat.blt pc 4 then
      (bif Nat.blt pc 1 then
        (bif Nat.beq pc 0 then some (.iload_n 0, 0, 0, 0, 0) else none)
      else
        bif Nat.beq pc 1 then some (.ifCond .lt (12), 13, 0, 0, 0) else none)
    else
      bif Nat.blt pc 5 then
        (bif Nat.beq pc 4 then some (.iload_n 0, 0, 0, 0, 0) else none)
      else
        bif Nat.beq pc 5 then some (.iconst 2, 0, 0, 0, 2) else none)
  else
    bif Nat.blt pc 10 then
      (bif Nat.blt pc 9 then
        (bif Nat.beq pc 6 then some (.if_icmp .ge (7), 13, 0, 0, 0) else none)
      else
        bif Nat.beq pc 9 then some (.iconst 1, 0, 0, 0, 1) else none)
    else
      bif Nat.blt pc 13 then
        (bif Nat.beq pc 10 then some (.goto 4, 14, 0, 0, 0) else none)
      else
        bif Nat.blt pc 14 then
          (bif Nat.beq pc 13 then some (.iconst 0, 0, 0, 0, 0) else none)
        else
          bif Nat.beq pc 14 then some (.ireturn, 0, 0, 1, 0) else none
def i_X_isEnd : Nat → Option Ent := ab_tab 15 t_X_isEnd
def h_X_isEnd (pc : Nat) : Nat × List Bool := (0, [])
def s_X_isEnd (pc : Nat) : List (Int32 × Nat) × Nat := ([], 0)
noncomputable def eV_X_isEnd : Nat → List AV → Mm → Option Mm := ab_ev []
noncomputable def eI_X_isEnd : Nat → List AV → Mm → Option (Int32 × Mm) := ab_ev []
noncomputable def b_X_isEnd_0 (f : Nat) (v0 : Int32) (m : Mm) : Option Rs := ab_ex KT none s_X_isEnd eV_X_isEnd eI_X_isEnd i_X_isEnd h_X_isEnd f 0 [some (.inl v0)] [] m
set_option maxRecDepth 100000 in
set_option maxHeartbeats 4000000 in
theorem b_X_isEnd_0_eq (f : Nat) (v0 : Int32) (m : Mm) : b_X_isEnd_0 (f + 1) v0 m =
    if v0 < 0 then
      (ab_bo (0 : Int32)).bind fun y1 => some (.inl (some (.inl y1), m))
    else
      if (2 : Int32) ≤ v0 then
        (ab_bo (0 : Int32)).bind fun y2 => some (.inl (some (.inl y2), m))
      else
        (ab_bo (1 : Int32)).bind fun y3 => some (.inl (some (.inl y3), m)) := rfl
noncomputable def r_X_isEnd : Int32 → Mm → Option (Int32 × Mm) := ab_seal fun v0 m => ab_rI (b_X_isEnd_0 50000 v0 m)
theorem r_X_isEnd_eq (v0 : Int32) (m : Mm) : r_X_isEnd v0 m = ab_rI (b_X_isEnd_0 50000 v0 m) := by
  unfold r_X_isEnd
  rw [ab_seal_eq]
noncomputable def c_X_isEnd : List AV → Mm → Option (Int32 × Mm) := fun av m => match av with
  | [.inl v0] => r_X_isEnd v0 m
  | _ => none
theorem c_X_isEnd_inv {av : List AV} {m : Mm} {r : Int32 × Mm} (h : c_X_isEnd av m = some r) : ∃ (v0 : Int32), av = [.inl v0] ∧ r_X_isEnd v0 m = some r := by
  unfold c_X_isEnd at h
  split at h
  · rename_i v0
    exact ⟨v0, rfl, h⟩
  · cases h
def cs_X_isEnd : List Nat := []
set_option maxRecDepth 100000 in
theorem E_X_isEnd : ∀ (pc : Nat) (q : Ent), i_X_isEnd pc = some q → ab_E KT CL ab_gW "StreamTransport" "isEnd" (some .boolean) prog_1_method_22_code s_X_isEnd 1 pc q.1 q.2.1 q.2.2.1 q.2.2.2.1 q.2.2.2.2 := fun pc q hq =>
  ab_Eb_ok lc_X lj_X fl_X (fpn_X "isEnd") nw_X na_X nq_X (ab_tab_all (t := t_X_isEnd) (chk := fun pc q => ab_Eb (some .boolean) prog_1_method_22_code s_X_isEnd 1 LC_X LJ_X FL_X FPn_X NW_X NA_X NQ_X pc q.1 q.2.1 q.2.2.1 q.2.2.2.1 q.2.2.2.2) (by decide +kernel) hq)
set_option maxRecDepth 100000 in
theorem kp_X_isEnd {av : List AV} {m : Mm} {r : Int32 × Mm} (h : c_X_isEnd av m = some r) : ab_kp m r.2 := by
  obtain ⟨v0, -, h⟩ := c_X_isEnd_inv h
  rw [r_X_isEnd_eq] at h
  have hV : ∀ a av m m', eV_X_isEnd a av m = some m' → ab_kp m m' := ab_ev_all (P := fun _ m r => ab_kp m r) [] (fun q hq => by cases hq)
  have hI : ∀ a av m q, eI_X_isEnd a av m = some q → ab_kp m q.2 := ab_ev_all (P := fun _ (m : Mm) (r : Int32 × Mm) => ab_kp m r.2) [] (fun q hq => by cases hq)
  exact ab_kprel (ρ := .inl (some (.inl r.1), r.2)) (ab_tab_isn (t := t_X_isEnd) (by decide +kernel)) hV hI (ab_rI_inv h)
set_option maxRecDepth 100000 in
theorem cl_X_isEnd (l : Launch) : ∀ (pc : Nat) (q : Ent), i_X_isEnd pc = some q → ab_inv q.1 = true → ab_CR l KT CL none ab_gW "StreamTransport" prog_1_method_22_code 1 0 0 eV_X_isEnd eI_X_isEnd pc q := by
  intro pc q hq hi
  have hm : pc ∈ cs_X_isEnd := ab_tab_cs (t := t_X_isEnd) (by decide +kernel) hq hi
  cases hm
theorem cw_X_isEnd : ab_cw y_X_isEnd prog_1_method_22_code 1 1 (some .boolean) := ⟨ab_gW_in 372 (by decide +kernel) rfl, ab_gW_in 61 (by decide +kernel) rfl, by decide +kernel, by decide +kernel, by decide +kernel⟩
theorem st_X_isEnd : Cond.static y_X_isEnd ∈ ab_gW := ab_gW_in 371 (by decide +kernel) rfl
set_option maxRecDepth 100000 in
theorem cm_X_isEnd (l : Launch) {av : List AV} {m : Mm} {r : Int32 × Mm} (h0 : c_X_isEnd av m = some r) : av.length = 1 ∧ ab_nos av ∧ ab_Met l KT CL y_X_isEnd (Cond.code y_X_isEnd prog_1_method_22_code 1 (some .boolean) :: ab_gW) 0 0 none av m (some (.inl r.1)) r.2 := by
  obtain ⟨v0, hav, h⟩ := c_X_isEnd_inv h0
  rw [r_X_isEnd_eq] at h
  have hmo : ab_mo m r.2 := ab_kp_mo (kp_X_isEnd h0)
  subst hav
  exact ⟨rfl, (by intro v hv q e; subst e; simp at hv), ab_met (by decide +kernel) KT_0 KT_nd KT_k3 E_X_isEnd (cl_X_isEnd l) hmo (Nat.le_of_ble_eq_true rfl) (ab_rI_inv h) (fun v hv => by cases hv; exact ⟨_, rfl⟩)⟩
/-! StreamTransport.isStream(II)Z -/
def y_X_isStream : MethodName := ⟨"StreamTransport", "isStream", "(II)Z"⟩
def t_X_isStream (pc : Nat) : Option Ent :=
  bif Nat.blt pc 12 then
    (bif Nat.blt pc 7 then
      (bif Nat.blt pc 1 then
        (bif Nat.beq pc 0 then some (.iload_n 0, 0, 0, 0, 0) else none)
      else
        bif Nat.blt pc 4 then
          (bif Nat.beq pc 1 then some (.invokestatic 113, 83, 1, 1, 0) else none)
        else
          bif Nat.beq pc 4 then some (.ifCond .eq (16), 20, 0, 0, 0) else none)
    else
      bif Nat.blt pc 8 then
        (bif Nat.beq pc 7 then some (.iload_n 1, 1, 0, 0, 0) else none)
      else
        bif Nat.blt pc 11 then
          (bif Nat.beq pc 8 then some (.ifCond .lt (12), 20, 0, 0, 0) else none)
        else
          bif Nat.beq pc 11 then some (.iload_n 1, 1, 0, 0, 0) else none)
  else
    bif Nat.blt pc 17 then
      (bif Nat.blt pc 13 then
        (bif Nat.beq pc 12 then some (.iconst 4, 0, 0, 0, 4) else none)
      else
        bif Nat.blt pc 16 then
          (bif Nat.beq pc 13 then some (.if_icmp .ge (7), 20, 0, 0, 0) else none)
        else
          bif Nat.beq pc 16 then some (.iconst 1, 0, 0, 0, 1) else none)
    else
      bif Nat.blt pc 20 then
        (bif Nat.beq pc 17 then some (.goto 4, 21, 0, 0, 0) else none)
      else
        bif Nat.blt pc 21 then
          (bif Nat.beq pc 20 then some (.iconst 0, 0, 0, 0, 0) else none)
        else
          bif Nat.beq pc 21 then some (.ireturn, 0, 0, 1, 0) else none
def i_X_isStream : Nat → Option Ent := ab_tab 22 t_X_isStream
def h_X_isStream (pc : Nat) : Nat × List Bool := (0, [])
def s_X_isStream (pc : Nat) : List (Int32 × Nat) × Nat := ([], 0)
noncomputable def eV_X_isStream : Nat → List AV → Mm → Option Mm := ab_ev []
noncomputable def eI_X_isStream : Nat → List AV → Mm → Option (Int32 × Mm) := ab_ev [(83, c_X_isEnd)]
noncomputable def b_X_isStream_0 (f : Nat) (v0 : Int32) (v1 : Int32) (m : Mm) : Option Rs := ab_ex KT none s_X_isStream eV_X_isStream eI_X_isStream i_X_isStream h_X_isStream f 0 [some (.inl v0), some (.inl v1)] [] m
set_option maxRecDepth 100000 in
set_option maxHeartbeats 4000000 in
theorem b_X_isStream_0_eq (f : Nat) (v0 : Int32) (v1 : Int32) (m : Mm) : b_X_isStream_0 (f + 1) v0 v1 m =
    (r_X_isEnd v0 m).bind fun z1 =>
    if z1.1 = 0 then
      (ab_bo (0 : Int32)).bind fun y2 => some (.inl (some (.inl y2), z1.2))
    else
      if v1 < 0 then
        (ab_bo (0 : Int32)).bind fun y3 => some (.inl (some (.inl y3), z1.2))
      else
        if (4 : Int32) ≤ v1 then
          (ab_bo (0 : Int32)).bind fun y4 => some (.inl (some (.inl y4), z1.2))
        else
          (ab_bo (1 : Int32)).bind fun y5 => some (.inl (some (.inl y5), z1.2)) := rfl
noncomputable def r_X_isStream : Int32 → Int32 → Mm → Option (Int32 × Mm) := ab_seal fun v0 v1 m => ab_rI (b_X_isStream_0 50000 v0 v1 m)
theorem r_X_isStream_eq (v0 : Int32) (v1 : Int32) (m : Mm) : r_X_isStream v0 v1 m = ab_rI (b_X_isStream_0 50000 v0 v1 m) := by
  unfold r_X_isStream
  rw [ab_seal_eq]
noncomputable def c_X_isStream : List AV → Mm → Option (Int32 × Mm) := fun av m => match av with
  | [.inl v0, .inl v1] => r_X_isStream v0 v1 m
  | _ => none
theorem c_X_isStream_inv {av : List AV} {m : Mm} {r : Int32 × Mm} (h : c_X_isStream av m = some r) : ∃ (v0 : Int32) (v1 : Int32), av = [.inl v0, .inl v1] ∧ r_X_isStream v0 v1 m = some r := by
  unfold c_X_isStream at h
  split at h
  · rename_i v0 v1
    exact ⟨v0, v1, rfl, h⟩
  · cases h
def cs_X_isStream : List Nat := [1]
set_option maxRecDepth 100000 in
theorem E_X_isStream : ∀ (pc : Nat) (q : Ent), i_X_isStream pc = some q → ab_E KT CL ab_gW "StreamTransport" "isStream" (some .boolean) prog_1_method_23_code s_X_isStream 2 pc q.1 q.2.1 q.2.2.1 q.2.2.2.1 q.2.2.2.2 := fun pc q hq =>
  ab_Eb_ok lc_X lj_X fl_X (fpn_X "isStream") nw_X na_X nq_X (ab_tab_all (t := t_X_isStream) (chk := fun pc q => ab_Eb (some .boolean) prog_1_method_23_code s_X_isStream 2 LC_X LJ_X FL_X FPn_X NW_X NA_X NQ_X pc q.1 q.2.1 q.2.2.1 q.2.2.2.1 q.2.2.2.2) (by decide +kernel) hq)
set_option maxRecDepth 100000 in
theorem kp_X_isStream {av : List AV} {m : Mm} {r : Int32 × Mm} (h : c_X_isStream av m = some r) : ab_kp m r.2 := by
  obtain ⟨v0, v1, -, h⟩ := c_X_isStream_inv h
  rw [r_X_isStream_eq] at h
  have hV : ∀ a av m m', eV_X_isStream a av m = some m' → ab_kp m m' := ab_ev_all (P := fun _ m r => ab_kp m r) [] (fun q hq => by cases hq)
  have hI : ∀ a av m q, eI_X_isStream a av m = some q → ab_kp m q.2 := ab_ev_all (P := fun _ (m : Mm) (r : Int32 × Mm) => ab_kp m r.2) [(83, c_X_isEnd)] (List.forall_mem_cons.mpr ⟨fun av m r h => kp_X_isEnd h, fun q hq => by cases hq⟩)
  exact ab_kprel (ρ := .inl (some (.inl r.1), r.2)) (ab_tab_isn (t := t_X_isStream) (by decide +kernel)) hV hI (ab_rI_inv h)
set_option maxRecDepth 100000 in
theorem cl_X_isStream (l : Launch) : ∀ (pc : Nat) (q : Ent), i_X_isStream pc = some q → ab_inv q.1 = true → ab_CR l KT CL none ab_gW "StreamTransport" prog_1_method_23_code 2 1 20 eV_X_isStream eI_X_isStream pc q := by
  intro pc q hq hi
  have hm : pc ∈ cs_X_isStream := ab_tab_cs (t := t_X_isStream) (by decide +kernel) hq hi
  simp only [cs_X_isStream, List.mem_cons, List.not_mem_nil, or_false] at hm
  rcases hm with rfl
  · cases (Option.some.inj hq : ((.invokestatic 113, 83, 1, 1, 0) : Ent) = q)
    exact ab_crS (by decide +kernel) cw_X_isEnd (ab_gW_in 370 (by decide +kernel) rfl) st_X_isEnd (by decide) (fun av m m' h => by cases h) (fun av m r h => cm_X_isEnd l h) KT_nd
theorem cw_X_isStream : ab_cw y_X_isStream prog_1_method_23_code 2 2 (some .boolean) := ⟨ab_gW_in 369 (by decide +kernel) rfl, ab_gW_in 61 (by decide +kernel) rfl, by decide +kernel, by decide +kernel, by decide +kernel⟩
theorem st_X_isStream : Cond.static y_X_isStream ∈ ab_gW := ab_gW_in 368 (by decide +kernel) rfl
set_option maxRecDepth 100000 in
theorem cm_X_isStream (l : Launch) {av : List AV} {m : Mm} {r : Int32 × Mm} (h0 : c_X_isStream av m = some r) : av.length = 2 ∧ ab_nos av ∧ ab_Met l KT CL y_X_isStream (Cond.code y_X_isStream prog_1_method_23_code 2 (some .boolean) :: ab_gW) 1 20 none av m (some (.inl r.1)) r.2 := by
  obtain ⟨v0, v1, hav, h⟩ := c_X_isStream_inv h0
  rw [r_X_isStream_eq] at h
  have hmo : ab_mo m r.2 := ab_kp_mo (kp_X_isStream h0)
  subst hav
  exact ⟨rfl, (by intro v hv q e; subst e; simp at hv), ab_met (by decide +kernel) KT_0 KT_nd KT_k3 E_X_isStream (cl_X_isStream l) hmo (Nat.le_of_ble_eq_true rfl) (ab_rI_inv h) (fun v hv => by cases hv; exact ⟨_, rfl⟩)⟩
/-! StreamTransport.isCallBytes(I)Z -/
def y_X_isCallBytes : MethodName := ⟨"StreamTransport", "isCallBytes", "(I)Z"⟩
def t_X_isCallBytes (pc : Nat) : Option Ent :=
  bif Nat.blt pc 8 then
    (bif Nat.blt pc 2 then
      (bif Nat.blt pc 1 then
        (bif Nat.beq pc 0 then some (.iload_n 0, 0, 0, 0, 0) else none)
      else
        bif Nat.beq pc 1 then some (.iconst 1, 0, 0, 0, 1) else none)
    else
      bif Nat.blt pc 5 then
        (bif Nat.beq pc 2 then some (.if_icmp .lt (13), 15, 0, 0, 0) else none)
      else
        bif Nat.blt pc 6 then
          (bif Nat.beq pc 5 then some (.iload_n 0, 0, 0, 0, 0) else none)
        else
          bif Nat.beq pc 6 then some (.bipush 8, 0, 0, 0, 8) else none)
  else
    bif Nat.blt pc 12 then
      (bif Nat.blt pc 11 then
        (bif Nat.beq pc 8 then some (.if_icmp .gt (7), 15, 0, 0, 0) else none)
      else
        bif Nat.beq pc 11 then some (.iconst 1, 0, 0, 0, 1) else none)
    else
      bif Nat.blt pc 15 then
        (bif Nat.beq pc 12 then some (.goto 4, 16, 0, 0, 0) else none)
      else
        bif Nat.blt pc 16 then
          (bif Nat.beq pc 15 then some (.iconst 0, 0, 0, 0, 0) else none)
        else
          bif Nat.beq pc 16 then some (.ireturn, 0, 0, 1, 0) else none
def i_X_isCallBytes : Nat → Option Ent := ab_tab 17 t_X_isCallBytes
def h_X_isCallBytes (pc : Nat) : Nat × List Bool := (0, [])
def s_X_isCallBytes (pc : Nat) : List (Int32 × Nat) × Nat := ([], 0)
noncomputable def eV_X_isCallBytes : Nat → List AV → Mm → Option Mm := ab_ev []
noncomputable def eI_X_isCallBytes : Nat → List AV → Mm → Option (Int32 × Mm) := ab_ev []
noncomputable def b_X_isCallBytes_0 (f : Nat) (v0 : Int32) (m : Mm) : Option Rs := ab_ex KT none s_X_isCallBytes eV_X_isCallBytes eI_X_isCallBytes i_X_isCallBytes h_X_isCallBytes f 0 [some (.inl v0)] [] m
set_option maxRecDepth 100000 in
set_option maxHeartbeats 4000000 in
theorem b_X_isCallBytes_0_eq (f : Nat) (v0 : Int32) (m : Mm) : b_X_isCallBytes_0 (f + 1) v0 m =
    if v0 < (1 : Int32) then
      (ab_bo (0 : Int32)).bind fun y1 => some (.inl (some (.inl y1), m))
    else
      if (8 : Int32) < v0 then
        (ab_bo (0 : Int32)).bind fun y2 => some (.inl (some (.inl y2), m))
      else
        (ab_bo (1 : Int32)).bind fun y3 => some (.inl (some (.inl y3), m)) := rfl
noncomputable def r_X_isCallBytes : Int32 → Mm → Option (Int32 × Mm) := ab_seal fun v0 m => ab_rI (b_X_isCallBytes_0 50000 v0 m)
theorem r_X_isCallBytes_eq (v0 : Int32) (m : Mm) : r_X_isCallBytes v0 m = ab_rI (b_X_isCallBytes_0 50000 v0 m) := by
  unfold r_X_isCallBytes
  rw [ab_seal_eq]
noncomputable def c_X_isCallBytes : List AV → Mm → Option (Int32 × Mm) := fun av m => match av with
  | [.inl v0] => r_X_isCallBytes v0 m
  | _ => none
theorem c_X_isCallBytes_inv {av : List AV} {m : Mm} {r : Int32 × Mm} (h : c_X_isCallBytes av m = some r) : ∃ (v0 : Int32), av = [.inl v0] ∧ r_X_isCallBytes v0 m = some r := by
  unfold c_X_isCallBytes at h
  split at h
  · rename_i v0
    exact ⟨v0, rfl, h⟩
  · cases h
def cs_X_isCallBytes : List Nat := []
set_option maxRecDepth 100000 in
theorem E_X_isCallBytes : ∀ (pc : Nat) (q : Ent), i_X_isCallBytes pc = some q → ab_E KT CL ab_gW "StreamTransport" "isCallBytes" (some .boolean) prog_1_method_24_code s_X_isCallBytes 1 pc q.1 q.2.1 q.2.2.1 q.2.2.2.1 q.2.2.2.2 := fun pc q hq =>
  ab_Eb_ok lc_X lj_X fl_X (fpn_X "isCallBytes") nw_X na_X nq_X (ab_tab_all (t := t_X_isCallBytes) (chk := fun pc q => ab_Eb (some .boolean) prog_1_method_24_code s_X_isCallBytes 1 LC_X LJ_X FL_X FPn_X NW_X NA_X NQ_X pc q.1 q.2.1 q.2.2.1 q.2.2.2.1 q.2.2.2.2) (by decide +kernel) hq)
set_option maxRecDepth 100000 in
theorem kp_X_isCallBytes {av : List AV} {m : Mm} {r : Int32 × Mm} (h : c_X_isCallBytes av m = some r) : ab_kp m r.2 := by
  obtain ⟨v0, -, h⟩ := c_X_isCallBytes_inv h
  rw [r_X_isCallBytes_eq] at h
  have hV : ∀ a av m m', eV_X_isCallBytes a av m = some m' → ab_kp m m' := ab_ev_all (P := fun _ m r => ab_kp m r) [] (fun q hq => by cases hq)
  have hI : ∀ a av m q, eI_X_isCallBytes a av m = some q → ab_kp m q.2 := ab_ev_all (P := fun _ (m : Mm) (r : Int32 × Mm) => ab_kp m r.2) [] (fun q hq => by cases hq)
  exact ab_kprel (ρ := .inl (some (.inl r.1), r.2)) (ab_tab_isn (t := t_X_isCallBytes) (by decide +kernel)) hV hI (ab_rI_inv h)
set_option maxRecDepth 100000 in
theorem cl_X_isCallBytes (l : Launch) : ∀ (pc : Nat) (q : Ent), i_X_isCallBytes pc = some q → ab_inv q.1 = true → ab_CR l KT CL none ab_gW "StreamTransport" prog_1_method_24_code 1 0 0 eV_X_isCallBytes eI_X_isCallBytes pc q := by
  intro pc q hq hi
  have hm : pc ∈ cs_X_isCallBytes := ab_tab_cs (t := t_X_isCallBytes) (by decide +kernel) hq hi
  cases hm
theorem cw_X_isCallBytes : ab_cw y_X_isCallBytes prog_1_method_24_code 1 1 (some .boolean) := ⟨ab_gW_in 776 (by decide +kernel) rfl, ab_gW_in 61 (by decide +kernel) rfl, by decide +kernel, by decide +kernel, by decide +kernel⟩
theorem st_X_isCallBytes : Cond.static y_X_isCallBytes ∈ ab_gW := ab_gW_in 775 (by decide +kernel) rfl
set_option maxRecDepth 100000 in
theorem cm_X_isCallBytes (l : Launch) {av : List AV} {m : Mm} {r : Int32 × Mm} (h0 : c_X_isCallBytes av m = some r) : av.length = 1 ∧ ab_nos av ∧ ab_Met l KT CL y_X_isCallBytes (Cond.code y_X_isCallBytes prog_1_method_24_code 1 (some .boolean) :: ab_gW) 0 0 none av m (some (.inl r.1)) r.2 := by
  obtain ⟨v0, hav, h⟩ := c_X_isCallBytes_inv h0
  rw [r_X_isCallBytes_eq] at h
  have hmo : ab_mo m r.2 := ab_kp_mo (kp_X_isCallBytes h0)
  subst hav
  exact ⟨rfl, (by intro v hv q e; subst e; simp at hv), ab_met (by decide +kernel) KT_0 KT_nd KT_k3 E_X_isCallBytes (cl_X_isCallBytes l) hmo (Nat.le_of_ble_eq_true rfl) (ab_rI_inv h) (fun v hv => by cases hv; exact ⟨_, rfl⟩)⟩
/-! StreamTransport.isUnderWay(I)Z -/
def y_X_isUnderWay : MethodName := ⟨"StreamTransport", "isUnderWay", "(I)Z"⟩
def t_X_isUnderWay (pc : Nat) : Option Ent :=
  bif Nat.blt pc 9 then
    (bif Nat.blt pc 4 then
      (bif Nat.blt pc 1 then
        (bif Nat.beq pc 0 then some (.iload_n 1, 1, 0, 0, 0) else none)
      else
        bif Nat.beq pc 1 then some (.ifCond .lt (15), 16, 0, 0, 0) else none)
    else
      bif Nat.blt pc 5 then
        (bif Nat.beq pc 4 then some (.iload_n 1, 1, 0, 0, 0) else none)
      else
        bif Nat.blt pc 6 then
          (bif Nat.beq pc 5 then some (.aload_n 0, 0, 0, 0, 0) else none)
        else
          bif Nat.beq pc 6 then some (.getfield 120, 9, 4, 0, 0) else none)
  else
    bif Nat.blt pc 13 then
      (bif Nat.blt pc 12 then
        (bif Nat.beq pc 9 then some (.if_icmp .ge (7), 16, 0, 0, 0) else none)
      else
        bif Nat.beq pc 12 then some (.iconst 1, 0, 0, 0, 1) else none)
    else
      bif Nat.blt pc 16 then
        (bif Nat.beq pc 13 then some (.goto 4, 17, 0, 0, 0) else none)
      else
        bif Nat.blt pc 17 then
          (bif Nat.beq pc 16 then some (.iconst 0, 0, 0, 0, 0) else none)
        else
          bif Nat.beq pc 17 then some (.ireturn, 0, 0, 1, 0) else none
def i_X_isUnderWay : Nat → Option Ent := ab_tab 18 t_X_isUnderWay
def h_X_isUnderWay (pc : Nat) : Nat × List Bool := (0, [])
def s_X_isUnderWay (pc : Nat) : List (Int32 × Nat) × Nat := ([], 0)
noncomputable def eV_X_isUnderWay : Nat → List AV → Mm → Option Mm := ab_ev []
noncomputable def eI_X_isUnderWay : Nat → List AV → Mm → Option (Int32 × Mm) := ab_ev []
noncomputable def b_X_isUnderWay_0 (f : Nat) (v0 : Nat) (v1 : Int32) (m : Mm) : Option Rs := ab_ex KT none s_X_isUnderWay eV_X_isUnderWay eI_X_isUnderWay i_X_isUnderWay h_X_isUnderWay f 0 [some (.inr (.inr (1, some v0))), some (.inl v1)] [] m
set_option maxRecDepth 100000 in
set_option maxHeartbeats 4000000 in
theorem b_X_isUnderWay_0_eq (f : Nat) (v0 : Nat) (v1 : Int32) (m : Mm) : b_X_isUnderWay_0 (f + 1) v0 v1 m =
    if v1 < 0 then
      (ab_bo (0 : Int32)).bind fun y1 => some (.inl (some (.inl y1), m))
    else
      if (m.1 5 v0 0) ≤ v1 then
        (ab_bo (0 : Int32)).bind fun y2 => some (.inl (some (.inl y2), m))
      else
        (ab_bo (1 : Int32)).bind fun y3 => some (.inl (some (.inl y3), m)) := rfl
noncomputable def r_X_isUnderWay : Nat → Int32 → Mm → Option (Int32 × Mm) := ab_seal fun v0 v1 m => ab_rI (b_X_isUnderWay_0 50000 v0 v1 m)
theorem r_X_isUnderWay_eq (v0 : Nat) (v1 : Int32) (m : Mm) : r_X_isUnderWay v0 v1 m = ab_rI (b_X_isUnderWay_0 50000 v0 v1 m) := by
  unfold r_X_isUnderWay
  rw [ab_seal_eq]
noncomputable def c_X_isUnderWay : List AV → Mm → Option (Int32 × Mm) := fun av m => match av with
  | [.inr (.inr (kv0, ov0)), .inl v1] => if kv0 = 1 then (ov0.bind fun v0 => r_X_isUnderWay v0 v1 m) else none
  | _ => none
theorem c_X_isUnderWay_inv {av : List AV} {m : Mm} {r : Int32 × Mm} (h : c_X_isUnderWay av m = some r) : ∃ (v0 : Nat) (v1 : Int32), av = [.inr (.inr (1, some v0)), .inl v1] ∧ r_X_isUnderWay v0 v1 m = some r := by
  unfold c_X_isUnderWay at h
  split at h
  · rename_i kv0 ov0 v1
    by_cases hkv0 : kv0 = 1
    case neg => rw [if_neg hkv0] at h; cases h
    rw [if_pos hkv0] at h
    subst hkv0
    obtain ⟨v0, hev0, h⟩ := Option.bind_eq_some_iff.mp h
    subst hev0
    exact ⟨v0, v1, rfl, h⟩
  · cases h
def cs_X_isUnderWay : List Nat := []
set_option maxRecDepth 100000 in
theorem E_X_isUnderWay : ∀ (pc : Nat) (q : Ent), i_X_isUnderWay pc = some q → ab_E KT CL ab_gW "StreamTransport" "isUnderWay" (some .boolean) prog_1_method_21_code s_X_isUnderWay 2 pc q.1 q.2.1 q.2.2.1 q.2.2.2.1 q.2.2.2.2 := fun pc q hq =>
  ab_Eb_ok lc_X lj_X fl_X (fpn_X "isUnderWay") nw_X na_X nq_X (ab_tab_all (t := t_X_isUnderWay) (chk := fun pc q => ab_Eb (some .boolean) prog_1_method_21_code s_X_isUnderWay 2 LC_X LJ_X FL_X FPn_X NW_X NA_X NQ_X pc q.1 q.2.1 q.2.2.1 q.2.2.2.1 q.2.2.2.2) (by decide +kernel) hq)
set_option maxRecDepth 100000 in
theorem kp_X_isUnderWay {av : List AV} {m : Mm} {r : Int32 × Mm} (h : c_X_isUnderWay av m = some r) : ab_kp m r.2 := by
  obtain ⟨v0, v1, -, h⟩ := c_X_isUnderWay_inv h
  rw [r_X_isUnderWay_eq] at h
  have hV : ∀ a av m m', eV_X_isUnderWay a av m = some m' → ab_kp m m' := ab_ev_all (P := fun _ m r => ab_kp m r) [] (fun q hq => by cases hq)
  have hI : ∀ a av m q, eI_X_isUnderWay a av m = some q → ab_kp m q.2 := ab_ev_all (P := fun _ (m : Mm) (r : Int32 × Mm) => ab_kp m r.2) [] (fun q hq => by cases hq)
  exact ab_kprel (ρ := .inl (some (.inl r.1), r.2)) (ab_tab_isn (t := t_X_isUnderWay) (by decide +kernel)) hV hI (ab_rI_inv h)
set_option maxRecDepth 100000 in
theorem cl_X_isUnderWay (l : Launch) : ∀ (pc : Nat) (q : Ent), i_X_isUnderWay pc = some q → ab_inv q.1 = true → ab_CR l KT CL none ab_gW "StreamTransport" prog_1_method_21_code 2 0 0 eV_X_isUnderWay eI_X_isUnderWay pc q := by
  intro pc q hq hi
  have hm : pc ∈ cs_X_isUnderWay := ab_tab_cs (t := t_X_isUnderWay) (by decide +kernel) hq hi
  cases hm
theorem cw_X_isUnderWay : ab_cw y_X_isUnderWay prog_1_method_21_code 2 1 (some .boolean) := ⟨ab_gW_in 605 (by decide +kernel) rfl, ab_gW_in 61 (by decide +kernel) rfl, by decide +kernel, by decide +kernel, by decide +kernel⟩
theorem is_X_isUnderWay : Cond.instanceMethod y_X_isUnderWay ∈ ab_gW := ab_gW_in 604 (by decide +kernel) rfl
theorem sl_X_isUnderWay : Cond.selects "StreamTransport" y_X_isUnderWay y_X_isUnderWay ∈ ab_gW := ab_gW_in 11 (by decide +kernel) rfl
set_option maxRecDepth 100000 in
theorem cm_X_isUnderWay (l : Launch) {av : List AV} {m : Mm} {r : Int32 × Mm} (h0 : c_X_isUnderWay av m = some r) : ∃ (k q : Nat) (av' : List AV) (ci : Nat) (fs : List (Nat × Nat × Nat × Nat)) (z : vw_C), av = .inr (.inr (k, some q)) :: av' ∧ av'.length = 1 ∧ k ≠ 0 ∧ KT[k]? = some (.inl (ci, fs)) ∧ CL[ci]? = some z ∧ z.1 = "StreamTransport" ∧ ab_nos av' ∧ ab_Met l KT CL y_X_isUnderWay (Cond.code y_X_isUnderWay prog_1_method_21_code 2 (some .boolean) :: ab_gW) 0 0 none av m (some (.inl r.1)) r.2 := by
  obtain ⟨v0, v1, hav, h⟩ := c_X_isUnderWay_inv h0
  rw [r_X_isUnderWay_eq] at h
  have hmo : ab_mo m r.2 := ab_kp_mo (kp_X_isUnderWay h0)
  subst hav
  exact ⟨_, _, _, _, _, _, rfl, rfl, by decide, rfl, rfl, rfl, (by intro v hv q e; subst e; simp at hv), ab_met (by decide +kernel) KT_0 KT_nd KT_k3 E_X_isUnderWay (cl_X_isUnderWay l) hmo (Nat.le_of_ble_eq_true rfl) (ab_rI_inv h) (fun v hv => by cases hv; exact ⟨_, rfl⟩)⟩
/-! StreamTransport.takeOffWay(I)V -/
def y_X_takeOffWay : MethodName := ⟨"StreamTransport", "takeOffWay", "(I)V"⟩
def t_X_takeOffWay (pc : Nat) : Option Ent :=
  bif Nat.blt pc 29 then
    (bif Nat.blt pc 11 then
      (bif Nat.blt pc 6 then
        (bif Nat.blt pc 4 then
          (bif Nat.blt pc 1 then
            (bif Nat.beq pc 0 then some (.aload_n 0, 0, 0, 0, 0) else none)
          else
            bif Nat.beq pc 1 then some (.getfield 17, 9, 1, 1, 0) else none)
        else
          bif Nat.blt pc 5 then
            (bif Nat.beq pc 4 then some (.iload_n 1, 1, 0, 0, 0) else none)
          else
            bif Nat.beq pc 5 then some (.aaload, 0, 0, 0, 0) else none)
      else
        bif Nat.blt pc 8 then
          (bif Nat.blt pc 7 then
            (bif Nat.beq pc 6 then some (.astore_n 2, 2, 0, 0, 0) else none)
          else
            bif Nat.beq pc 7 then some (.iload_n 1, 1, 0, 0, 0) else none)
        else
          bif Nat.blt pc 9 then
            (bif Nat.beq pc 8 then some (.istore_n 3, 3, 0, 0, 0) else none)
          else
            bif Nat.blt pc 10 then
              (bif Nat.beq pc 9 then some (.iload_n 3, 3, 0, 0, 0) else none)
            else
              bif Nat.beq pc 10 then some (.aload_n 0, 0, 0, 0, 0) else none)
    else
      bif Nat.blt pc 20 then
        (bif Nat.blt pc 15 then
          (bif Nat.blt pc 14 then
            (bif Nat.beq pc 11 then some (.getfield 120, 9, 4, 0, 0) else none)
          else
            bif Nat.beq pc 14 then some (.iconst 1, 0, 0, 0, 1) else none)
        else
          bif Nat.blt pc 16 then
            (bif Nat.beq pc 15 then some (.isub, 0, 0, 0, 0) else none)
          else
            bif Nat.blt pc 19 then
              (bif Nat.beq pc 16 then some (.if_icmp .ge (23), 39, 0, 0, 0) else none)
            else
              bif Nat.beq pc 19 then some (.aload_n 0, 0, 0, 0, 0) else none)
      else
        bif Nat.blt pc 24 then
          (bif Nat.blt pc 23 then
            (bif Nat.beq pc 20 then some (.getfield 17, 9, 1, 1, 0) else none)
          else
            bif Nat.beq pc 23 then some (.iload_n 3, 3, 0, 0, 0) else none)
        else
          bif Nat.blt pc 25 then
            (bif Nat.beq pc 24 then some (.aload_n 0, 0, 0, 0, 0) else none)
          else
            bif Nat.blt pc 28 then
              (bif Nat.beq pc 25 then some (.getfield 17, 9, 1, 1, 0) else none)
            else
              bif Nat.beq pc 28 then some (.iload_n 3, 3, 0, 0, 0) else none)
  else
    bif Nat.blt pc 44 then
      (bif Nat.blt pc 33 then
        (bif Nat.blt pc 31 then
          (bif Nat.blt pc 30 then
            (bif Nat.beq pc 29 then some (.iconst 1, 0, 0, 0, 1) else none)
          else
            bif Nat.beq pc 30 then some (.iadd, 0, 0, 0, 0) else none)
        else
          bif Nat.blt pc 32 then
            (bif Nat.beq pc 31 then some (.aaload, 0, 0, 0, 0) else none)
          else
            bif Nat.beq pc 32 then some (.aastore, 0, 0, 0, 0) else none)
      else
        bif Nat.blt pc 39 then
          (bif Nat.blt pc 36 then
            (bif Nat.beq pc 33 then some (.iinc 3 1, 3, 0, 0, 1) else none)
          else
            bif Nat.beq pc 36 then some (.goto (-27), 9, 0, 0, 0) else none)
        else
          bif Nat.blt pc 40 then
            (bif Nat.beq pc 39 then some (.aload_n 0, 0, 0, 0, 0) else none)
          else
            bif Nat.blt pc 41 then
              (bif Nat.beq pc 40 then some (.dup, 0, 0, 1, 0) else none)
            else
              bif Nat.beq pc 41 then some (.getfield 120, 9, 4, 0, 0) else none)
    else
      bif Nat.blt pc 53 then
        (bif Nat.blt pc 46 then
          (bif Nat.blt pc 45 then
            (bif Nat.beq pc 44 then some (.iconst 1, 0, 0, 0, 1) else none)
          else
            bif Nat.beq pc 45 then some (.isub, 0, 0, 0, 0) else none)
        else
          bif Nat.blt pc 49 then
            (bif Nat.beq pc 46 then some (.putfield 120, 9, 4, 0, 0) else none)
          else
            bif Nat.blt pc 50 then
              (bif Nat.beq pc 49 then some (.aload_n 0, 0, 0, 0, 0) else none)
            else
              bif Nat.beq pc 50 then some (.getfield 17, 9, 1, 1, 0) else none)
      else
        bif Nat.blt pc 57 then
          (bif Nat.blt pc 54 then
            (bif Nat.beq pc 53 then some (.aload_n 0, 0, 0, 0, 0) else none)
          else
            bif Nat.beq pc 54 then some (.getfield 120, 9, 4, 0, 0) else none)
        else
          bif Nat.blt pc 58 then
            (bif Nat.beq pc 57 then some (.aload_n 2, 2, 0, 0, 0) else none)
          else
            bif Nat.blt pc 59 then
              (bif Nat.beq pc 58 then some (.aastore, 0, 0, 0, 0) else none)
            else
              bif Nat.beq pc 59 then some (.return_, 0, 0, 0, 0) else none
def i_X_takeOffWay : Nat → Option Ent := ab_tab 60 t_X_takeOffWay
def h_X_takeOffWay (pc : Nat) : Nat × List Bool := bif Nat.beq pc 9 then (1, [true, false, true, true]) else (0, [])
def s_X_takeOffWay (pc : Nat) : List (Int32 × Nat) × Nat := ([], 0)
noncomputable def eV_X_takeOffWay : Nat → List AV → Mm → Option Mm := ab_ev []
noncomputable def eI_X_takeOffWay : Nat → List AV → Mm → Option (Int32 × Mm) := ab_ev []
noncomputable def b_X_takeOffWay_0 (f : Nat) (v0 : Nat) (v1 : Int32) (m : Mm) : Option Rs := ab_ex KT none s_X_takeOffWay eV_X_takeOffWay eI_X_takeOffWay i_X_takeOffWay h_X_takeOffWay f 0 [some (.inr (.inr (1, some v0))), some (.inl v1), none, none] [] m
noncomputable def b_X_takeOffWay_9 (f : Nat) (v0 : Nat) (v2 : Nat) (v3 : Int32) (m : Mm) : Option Rs := ab_ex KT none s_X_takeOffWay eV_X_takeOffWay eI_X_takeOffWay i_X_takeOffWay h_X_takeOffWay f 9 [some (.inr (.inr (1, some v0))), none, some (.inr (.inr (4, some v2))), some (.inl v3)] [] m
set_option maxRecDepth 100000 in
set_option maxHeartbeats 4000000 in
theorem b_X_takeOffWay_0_eq (f : Nat) (v0 : Nat) (v1 : Int32) (m : Mm) : b_X_takeOffWay_0 (f + 1) v0 v1 m =
    (ab_ix v1 16).bind fun i1 =>
    (m.2.2.1 9 (v0 + 2) i1).bind fun q2 =>
      b_X_takeOffWay_9 f v0 q2 v1 m := rfl
set_option maxRecDepth 100000 in
set_option maxHeartbeats 4000000 in
theorem b_X_takeOffWay_9_eq (f : Nat) (v0 : Nat) (v2 : Nat) (v3 : Int32) (m : Mm) : b_X_takeOffWay_9 (f + 1) v0 v2 v3 m =
    if ((m.1 5 v0 0) - (1 : Int32)) ≤ v3 then
      ab_let (ab_uI m 5 v0 0 ((m.1 5 v0 0) - (1 : Int32))) fun m1 =>
      (ab_ix (m1.1 5 v0 0) 16).bind fun i2 =>
      ab_let (ab_uR m1 9 (v0 + 2) i2 (some v2)) fun m3 =>
      some (.inl (none, m3))
    else
      (ab_ix (v3 + (1 : Int32)) 16).bind fun i4 =>
      (m.2.2.1 9 (v0 + 2) i4).bind fun q7 =>
        (ab_ix v3 16).bind fun i5 =>
      ab_let (ab_uR m 9 (v0 + 2) i5 (some q7)) fun m6 =>
      ab_let (v3 + (1 : Int32)) fun x8 =>
      b_X_takeOffWay_9 f v0 v2 x8 m6 := rfl
noncomputable def r_X_takeOffWay : Nat → Int32 → Mm → Option Mm := ab_seal fun v0 v1 m => ab_rV (b_X_takeOffWay_0 50000 v0 v1 m)
theorem r_X_takeOffWay_eq (v0 : Nat) (v1 : Int32) (m : Mm) : r_X_takeOffWay v0 v1 m = ab_rV (b_X_takeOffWay_0 50000 v0 v1 m) := by
  unfold r_X_takeOffWay
  rw [ab_seal_eq]
noncomputable def c_X_takeOffWay : List AV → Mm → Option Mm := fun av m => match av with
  | [.inr (.inr (kv0, ov0)), .inl v1] => if kv0 = 1 then (ov0.bind fun v0 => r_X_takeOffWay v0 v1 m) else none
  | _ => none
theorem c_X_takeOffWay_inv {av : List AV} {m : Mm} {r : Mm} (h : c_X_takeOffWay av m = some r) : ∃ (v0 : Nat) (v1 : Int32), av = [.inr (.inr (1, some v0)), .inl v1] ∧ r_X_takeOffWay v0 v1 m = some r := by
  unfold c_X_takeOffWay at h
  split at h
  · rename_i kv0 ov0 v1
    by_cases hkv0 : kv0 = 1
    case neg => rw [if_neg hkv0] at h; cases h
    rw [if_pos hkv0] at h
    subst hkv0
    obtain ⟨v0, hev0, h⟩ := Option.bind_eq_some_iff.mp h
    subst hev0
    exact ⟨v0, v1, rfl, h⟩
  · cases h
def cs_X_takeOffWay : List Nat := []
set_option maxRecDepth 100000 in
theorem E_X_takeOffWay : ∀ (pc : Nat) (q : Ent), i_X_takeOffWay pc = some q → ab_E KT CL ab_gW "StreamTransport" "takeOffWay" none prog_1_method_20_code s_X_takeOffWay 4 pc q.1 q.2.1 q.2.2.1 q.2.2.2.1 q.2.2.2.2 := fun pc q hq =>
  ab_Eb_ok lc_X lj_X fl_X (fpn_X "takeOffWay") nw_X na_X nq_X (ab_tab_all (t := t_X_takeOffWay) (chk := fun pc q => ab_Eb none prog_1_method_20_code s_X_takeOffWay 4 LC_X LJ_X FL_X FPn_X NW_X NA_X NQ_X pc q.1 q.2.1 q.2.2.1 q.2.2.2.1 q.2.2.2.2) (by decide +kernel) hq)
set_option maxRecDepth 100000 in
theorem kp_X_takeOffWay {av : List AV} {m : Mm} {r : Mm} (h : c_X_takeOffWay av m = some r) : ab_kp m r := by
  obtain ⟨v0, v1, -, h⟩ := c_X_takeOffWay_inv h
  rw [r_X_takeOffWay_eq] at h
  have hV : ∀ a av m m', eV_X_takeOffWay a av m = some m' → ab_kp m m' := ab_ev_all (P := fun _ m r => ab_kp m r) [] (fun q hq => by cases hq)
  have hI : ∀ a av m q, eI_X_takeOffWay a av m = some q → ab_kp m q.2 := ab_ev_all (P := fun _ (m : Mm) (r : Int32 × Mm) => ab_kp m r.2) [] (fun q hq => by cases hq)
  exact ab_kprel (ρ := .inl (none, r)) (ab_tab_isn (t := t_X_takeOffWay) (by decide +kernel)) hV hI (ab_rV_inv h)
set_option maxRecDepth 100000 in
theorem cl_X_takeOffWay (l : Launch) : ∀ (pc : Nat) (q : Ent), i_X_takeOffWay pc = some q → ab_inv q.1 = true → ab_CR l KT CL none ab_gW "StreamTransport" prog_1_method_20_code 4 0 0 eV_X_takeOffWay eI_X_takeOffWay pc q := by
  intro pc q hq hi
  have hm : pc ∈ cs_X_takeOffWay := ab_tab_cs (t := t_X_takeOffWay) (by decide +kernel) hq hi
  cases hm
theorem cw_X_takeOffWay : ab_cw y_X_takeOffWay prog_1_method_20_code 4 1 none := ⟨ab_gW_in 609 (by decide +kernel) rfl, ab_gW_in 61 (by decide +kernel) rfl, by decide +kernel, by decide +kernel, by decide +kernel⟩
theorem is_X_takeOffWay : Cond.instanceMethod y_X_takeOffWay ∈ ab_gW := ab_gW_in 608 (by decide +kernel) rfl
theorem sl_X_takeOffWay : Cond.selects "StreamTransport" y_X_takeOffWay y_X_takeOffWay ∈ ab_gW := ab_gW_in 12 (by decide +kernel) rfl
set_option maxRecDepth 100000 in
theorem cm_X_takeOffWay (l : Launch) {av : List AV} {m : Mm} {r : Mm} (h0 : c_X_takeOffWay av m = some r) : ∃ (k q : Nat) (av' : List AV) (ci : Nat) (fs : List (Nat × Nat × Nat × Nat)) (z : vw_C), av = .inr (.inr (k, some q)) :: av' ∧ av'.length = 1 ∧ k ≠ 0 ∧ KT[k]? = some (.inl (ci, fs)) ∧ CL[ci]? = some z ∧ z.1 = "StreamTransport" ∧ ab_nos av' ∧ ab_Met l KT CL y_X_takeOffWay (Cond.code y_X_takeOffWay prog_1_method_20_code 4 none :: ab_gW) 0 0 none av m none r := by
  obtain ⟨v0, v1, hav, h⟩ := c_X_takeOffWay_inv h0
  rw [r_X_takeOffWay_eq] at h
  have hmo : ab_mo m r := ab_kp_mo (kp_X_takeOffWay h0)
  subst hav
  exact ⟨_, _, _, _, _, _, rfl, rfl, by decide, rfl, rfl, rfl, (by intro v hv q e; subst e; simp at hv), ab_met (by decide +kernel) KT_0 KT_nd KT_k3 E_X_takeOffWay (cl_X_takeOffWay l) hmo (Nat.le_of_ble_eq_true rfl) (ab_rV_inv h) (fun v hv => by cases hv)⟩
/-! StreamTransport.finish(II)Z -/
def y_X_finish : MethodName := ⟨"StreamTransport", "finish", "(II)Z"⟩
def t_X_finish (pc : Nat) : Option Ent :=
  bif Nat.blt pc 33 then
    (bif Nat.blt pc 14 then
      (bif Nat.blt pc 8 then
        (bif Nat.blt pc 2 then
          (bif Nat.blt pc 1 then
            (bif Nat.beq pc 0 then some (.iload_n 1, 1, 0, 0, 0) else none)
          else
            bif Nat.beq pc 1 then some (.iload_n 2, 2, 0, 0, 0) else none)
        else
          bif Nat.blt pc 5 then
            (bif Nat.beq pc 2 then some (.invokestatic 33, 84, 2, 1, 0) else none)
          else
            bif Nat.beq pc 5 then some (.ifCond .eq (35), 40, 0, 0, 0) else none)
      else
        bif Nat.blt pc 12 then
          (bif Nat.blt pc 9 then
            (bif Nat.beq pc 8 then some (.aload_n 0, 0, 0, 0, 0) else none)
          else
            bif Nat.beq pc 9 then some (.getfield 11, 9, 0, 1, 0) else none)
        else
          bif Nat.blt pc 13 then
            (bif Nat.beq pc 12 then some (.iload_n 1, 1, 0, 0, 0) else none)
          else
            bif Nat.beq pc 13 then some (.aaload, 0, 0, 0, 0) else none)
    else
      bif Nat.blt pc 24 then
        (bif Nat.blt pc 20 then
          (bif Nat.blt pc 17 then
            (bif Nat.beq pc 14 then some (.invokevirtual 54, 67, 1, 1, 0) else none)
          else
            bif Nat.beq pc 17 then some (.ifCond .eq (23), 40, 0, 0, 0) else none)
        else
          bif Nat.blt pc 21 then
            (bif Nat.beq pc 20 then some (.aload_n 0, 0, 0, 0, 0) else none)
          else
            bif Nat.beq pc 21 then some (.getfield 11, 9, 0, 1, 0) else none)
      else
        bif Nat.blt pc 26 then
          (bif Nat.blt pc 25 then
            (bif Nat.beq pc 24 then some (.iload_n 1, 1, 0, 0, 0) else none)
          else
            bif Nat.beq pc 25 then some (.aaload, 0, 0, 0, 0) else none)
        else
          bif Nat.blt pc 29 then
            (bif Nat.beq pc 26 then some (.getfield 44, 0, 2, 1, 0) else none)
          else
            bif Nat.blt pc 32 then
              (bif Nat.beq pc 29 then some (.getfield 48, 4, 0, 1, 0) else none)
            else
              bif Nat.beq pc 32 then some (.iload_n 2, 2, 0, 0, 0) else none)
  else
    bif Nat.blt pc 47 then
      (bif Nat.blt pc 41 then
        (bif Nat.blt pc 37 then
          (bif Nat.blt pc 34 then
            (bif Nat.beq pc 33 then some (.aaload, 0, 0, 0, 0) else none)
          else
            bif Nat.beq pc 34 then some (.invokevirtual 58, 30, 1, 1, 0) else none)
        else
          bif Nat.blt pc 40 then
            (bif Nat.beq pc 37 then some (.ifCond .ne (5), 42, 0, 0, 0) else none)
          else
            bif Nat.beq pc 40 then some (.iconst 0, 0, 0, 0, 0) else none)
      else
        bif Nat.blt pc 43 then
          (bif Nat.blt pc 42 then
            (bif Nat.beq pc 41 then some (.ireturn, 0, 0, 1, 0) else none)
          else
            bif Nat.beq pc 42 then some (.aload_n 0, 0, 0, 0, 0) else none)
        else
          bif Nat.blt pc 46 then
            (bif Nat.beq pc 43 then some (.getfield 11, 9, 0, 1, 0) else none)
          else
            bif Nat.beq pc 46 then some (.iload_n 1, 1, 0, 0, 0) else none)
    else
      bif Nat.blt pc 55 then
        (bif Nat.blt pc 51 then
          (bif Nat.blt pc 48 then
            (bif Nat.beq pc 47 then some (.aaload, 0, 0, 0, 0) else none)
          else
            bif Nat.beq pc 48 then some (.getfield 44, 0, 2, 1, 0) else none)
        else
          bif Nat.blt pc 54 then
            (bif Nat.beq pc 51 then some (.getfield 48, 4, 0, 1, 0) else none)
          else
            bif Nat.beq pc 54 then some (.iload_n 2, 2, 0, 0, 0) else none)
      else
        bif Nat.blt pc 57 then
          (bif Nat.blt pc 56 then
            (bif Nat.beq pc 55 then some (.aaload, 0, 0, 0, 0) else none)
          else
            bif Nat.beq pc 56 then some (.iconst 1, 0, 0, 0, 1) else none)
        else
          bif Nat.blt pc 60 then
            (bif Nat.beq pc 57 then some (.putfield 74, 5, 5, 0, 0) else none)
          else
            bif Nat.blt pc 61 then
              (bif Nat.beq pc 60 then some (.iconst 1, 0, 0, 0, 1) else none)
            else
              bif Nat.beq pc 61 then some (.ireturn, 0, 0, 1, 0) else none
def i_X_finish : Nat → Option Ent := ab_tab 62 t_X_finish
def h_X_finish (pc : Nat) : Nat × List Bool := (0, [])
def s_X_finish (pc : Nat) : List (Int32 × Nat) × Nat := ([], 0)
noncomputable def eV_X_finish : Nat → List AV → Mm → Option Mm := ab_ev []
noncomputable def eI_X_finish : Nat → List AV → Mm → Option (Int32 × Mm) := ab_ev [(84, c_X_isStream), (67, c_End_isOpen), (30, c_Out_isGrowing)]
noncomputable def b_X_finish_0 (f : Nat) (v0 : Nat) (v1 : Int32) (v2 : Int32) (m : Mm) : Option Rs := ab_ex KT none s_X_finish eV_X_finish eI_X_finish i_X_finish h_X_finish f 0 [some (.inr (.inr (1, some v0))), some (.inl v1), some (.inl v2)] [] m
set_option maxRecDepth 100000 in
set_option maxHeartbeats 4000000 in
theorem b_X_finish_0_eq (f : Nat) (v0 : Nat) (v1 : Int32) (v2 : Int32) (m : Mm) : b_X_finish_0 (f + 1) v0 v1 v2 m =
    (r_X_isStream v1 v2 m).bind fun z1 =>
    if z1.1 = 0 then
      (ab_bo (0 : Int32)).bind fun y2 => some (.inl (some (.inl y2), z1.2))
    else
      (ab_ix v1 2).bind fun i3 =>
      (r_End_isOpen ((v0 + 1) + 5 + 30 * i3) z1.2).bind fun z4 =>
      if z4.1 = 0 then
        (ab_bo (0 : Int32)).bind fun y5 => some (.inl (some (.inl y5), z4.2))
      else
        (ab_ix v1 2).bind fun i6 =>
        (ab_ix v2 4).bind fun i7 =>
        (r_Out_isGrowing (((((v0 + 1) + 5 + 30 * i6) + 16) + 1) + 1 + 3 * i7) z4.2).bind fun z8 =>
        if z8.1 = 0 then
          (ab_bo (0 : Int32)).bind fun y14 => some (.inl (some (.inl y14), z8.2))
        else
          (ab_ix v1 2).bind fun i9 =>
          (ab_ix v2 4).bind fun i10 =>
          (ab_bo (1 : Int32)).bind fun y12 =>
          ab_let (ab_uI z8.2 62 (((((v0 + 1) + 5 + 30 * i9) + 16) + 1) + 1 + 3 * i10) 0 y12) fun m11 =>
          (ab_bo (1 : Int32)).bind fun y13 => some (.inl (some (.inl y13), m11)) := rfl
noncomputable def r_X_finish : Nat → Int32 → Int32 → Mm → Option (Int32 × Mm) := ab_seal fun v0 v1 v2 m => ab_rI (b_X_finish_0 50000 v0 v1 v2 m)
theorem r_X_finish_eq (v0 : Nat) (v1 : Int32) (v2 : Int32) (m : Mm) : r_X_finish v0 v1 v2 m = ab_rI (b_X_finish_0 50000 v0 v1 v2 m) := by
  unfold r_X_finish
  rw [ab_seal_eq]
noncomputable def c_X_finish : List AV → Mm → Option (Int32 × Mm) := fun av m => match av with
  | [.inr (.inr (kv0, ov0)), .inl v1, .inl v2] => if kv0 = 1 then (ov0.bind fun v0 => r_X_finish v0 v1 v2 m) else none
  | _ => none
theorem c_X_finish_inv {av : List AV} {m : Mm} {r : Int32 × Mm} (h : c_X_finish av m = some r) : ∃ (v0 : Nat) (v1 : Int32) (v2 : Int32), av = [.inr (.inr (1, some v0)), .inl v1, .inl v2] ∧ r_X_finish v0 v1 v2 m = some r := by
  unfold c_X_finish at h
  split at h
  · rename_i kv0 ov0 v1 v2
    by_cases hkv0 : kv0 = 1
    case neg => rw [if_neg hkv0] at h; cases h
    rw [if_pos hkv0] at h
    subst hkv0
    obtain ⟨v0, hev0, h⟩ := Option.bind_eq_some_iff.mp h
    subst hev0
    exact ⟨v0, v1, v2, rfl, h⟩
  · cases h
def cs_X_finish : List Nat := [2, 14, 34]
set_option maxRecDepth 100000 in
theorem E_X_finish : ∀ (pc : Nat) (q : Ent), i_X_finish pc = some q → ab_E KT CL ab_gW "StreamTransport" "finish" (some .boolean) prog_1_method_3_code s_X_finish 3 pc q.1 q.2.1 q.2.2.1 q.2.2.2.1 q.2.2.2.2 := fun pc q hq =>
  ab_Eb_ok lc_X lj_X fl_X (fpn_X "finish") nw_X na_X nq_X (ab_tab_all (t := t_X_finish) (chk := fun pc q => ab_Eb (some .boolean) prog_1_method_3_code s_X_finish 3 LC_X LJ_X FL_X FPn_X NW_X NA_X NQ_X pc q.1 q.2.1 q.2.2.1 q.2.2.2.1 q.2.2.2.2) (by decide +kernel) hq)
set_option maxRecDepth 100000 in
theorem kp_X_finish {av : List AV} {m : Mm} {r : Int32 × Mm} (h : c_X_finish av m = some r) : ab_kp m r.2 := by
  obtain ⟨v0, v1, v2, -, h⟩ := c_X_finish_inv h
  rw [r_X_finish_eq] at h
  have hV : ∀ a av m m', eV_X_finish a av m = some m' → ab_kp m m' := ab_ev_all (P := fun _ m r => ab_kp m r) [] (fun q hq => by cases hq)
  have hI : ∀ a av m q, eI_X_finish a av m = some q → ab_kp m q.2 := ab_ev_all (P := fun _ (m : Mm) (r : Int32 × Mm) => ab_kp m r.2) [(84, c_X_isStream), (67, c_End_isOpen), (30, c_Out_isGrowing)] (List.forall_mem_cons.mpr ⟨fun av m r h => kp_X_isStream h, List.forall_mem_cons.mpr ⟨fun av m r h => kp_End_isOpen h, List.forall_mem_cons.mpr ⟨fun av m r h => kp_Out_isGrowing h, fun q hq => by cases hq⟩⟩⟩)
  exact ab_kprel (ρ := .inl (some (.inl r.1), r.2)) (ab_tab_isn (t := t_X_finish) (by decide +kernel)) hV hI (ab_rI_inv h)
set_option maxRecDepth 100000 in
theorem cl_X_finish (l : Launch) : ∀ (pc : Nat) (q : Ent), i_X_finish pc = some q → ab_inv q.1 = true → ab_CR l KT CL none ab_gW "StreamTransport" prog_1_method_3_code 3 2 41 eV_X_finish eI_X_finish pc q := by
  intro pc q hq hi
  have hm : pc ∈ cs_X_finish := ab_tab_cs (t := t_X_finish) (by decide +kernel) hq hi
  simp only [cs_X_finish, List.mem_cons, List.not_mem_nil, or_false] at hm
  rcases hm with rfl | rfl | rfl
  · cases (Option.some.inj hq : ((.invokestatic 33, 84, 2, 1, 0) : Ent) = q)
    exact ab_crS (by decide +kernel) cw_X_isStream (ab_gW_in 367 (by decide +kernel) rfl) st_X_isStream (by decide) (fun av m m' h => by cases h) (fun av m r h => cm_X_isStream l h) KT_nd
  · cases (Option.some.inj hq : ((.invokevirtual 54, 67, 1, 1, 0) : Ent) = q)
    exact ab_crV (C := "StreamTransport$End") (by decide +kernel) cw_End_isOpen (ab_gW_in 373 (by decide +kernel) rfl) is_End_isOpen sl_End_isOpen (by decide) (fun av m m' h => by cases h) (fun av m r h => cm_End_isOpen l h) KT_nd
  · cases (Option.some.inj hq : ((.invokevirtual 58, 30, 1, 1, 0) : Ent) = q)
    exact ab_crV (C := "StreamTransport$Outgoing") (by decide +kernel) cw_Out_isGrowing (ab_gW_in 377 (by decide +kernel) rfl) is_Out_isGrowing sl_Out_isGrowing (by decide) (fun av m m' h => by cases h) (fun av m r h => cm_Out_isGrowing l h) KT_nd
theorem cw_X_finish : ab_cw y_X_finish prog_1_method_3_code 3 2 (some .boolean) := ⟨ab_gW_in 366 (by decide +kernel) rfl, ab_gW_in 61 (by decide +kernel) rfl, by decide +kernel, by decide +kernel, by decide +kernel⟩
theorem is_X_finish : Cond.instanceMethod y_X_finish ∈ ab_gW := ab_gW_in 364 (by decide +kernel) rfl
theorem sl_X_finish : Cond.selects "StreamTransport" y_X_finish y_X_finish ∈ ab_gW := ab_gW_in 365 (by decide +kernel) rfl
set_option maxRecDepth 100000 in
theorem cm_X_finish (l : Launch) {av : List AV} {m : Mm} {r : Int32 × Mm} (h0 : c_X_finish av m = some r) : ∃ (k q : Nat) (av' : List AV) (ci : Nat) (fs : List (Nat × Nat × Nat × Nat)) (z : vw_C), av = .inr (.inr (k, some q)) :: av' ∧ av'.length = 2 ∧ k ≠ 0 ∧ KT[k]? = some (.inl (ci, fs)) ∧ CL[ci]? = some z ∧ z.1 = "StreamTransport" ∧ ab_nos av' ∧ ab_Met l KT CL y_X_finish (Cond.code y_X_finish prog_1_method_3_code 3 (some .boolean) :: ab_gW) 2 41 none av m (some (.inl r.1)) r.2 := by
  obtain ⟨v0, v1, v2, hav, h⟩ := c_X_finish_inv h0
  rw [r_X_finish_eq] at h
  have hmo : ab_mo m r.2 := ab_kp_mo (kp_X_finish h0)
  subst hav
  exact ⟨_, _, _, _, _, _, rfl, rfl, by decide, rfl, rfl, rfl, (by intro v hv q e; subst e; simp at hv), ab_met (by decide +kernel) KT_0 KT_nd KT_k3 E_X_finish (cl_X_finish l) hmo (Nat.le_of_ble_eq_true rfl) (ab_rI_inv h) (fun v hv => by cases hv; exact ⟨_, rfl⟩)⟩
/-! StreamTransport.reset(II)Z -/
def y_X_reset : MethodName := ⟨"StreamTransport", "reset", "(II)Z"⟩
def t_X_reset (pc : Nat) : Option Ent :=
  bif Nat.blt pc 33 then
    (bif Nat.blt pc 14 then
      (bif Nat.blt pc 8 then
        (bif Nat.blt pc 2 then
          (bif Nat.blt pc 1 then
            (bif Nat.beq pc 0 then some (.iload_n 1, 1, 0, 0, 0) else none)
          else
            bif Nat.beq pc 1 then some (.iload_n 2, 2, 0, 0, 0) else none)
        else
          bif Nat.blt pc 5 then
            (bif Nat.beq pc 2 then some (.invokestatic 33, 84, 2, 1, 0) else none)
          else
            bif Nat.beq pc 5 then some (.ifCond .eq (35), 40, 0, 0, 0) else none)
      else
        bif Nat.blt pc 12 then
          (bif Nat.blt pc 9 then
            (bif Nat.beq pc 8 then some (.aload_n 0, 0, 0, 0, 0) else none)
          else
            bif Nat.beq pc 9 then some (.getfield 11, 9, 0, 1, 0) else none)
        else
          bif Nat.blt pc 13 then
            (bif Nat.beq pc 12 then some (.iload_n 1, 1, 0, 0, 0) else none)
          else
            bif Nat.beq pc 13 then some (.aaload, 0, 0, 0, 0) else none)
    else
      bif Nat.blt pc 24 then
        (bif Nat.blt pc 20 then
          (bif Nat.blt pc 17 then
            (bif Nat.beq pc 14 then some (.invokevirtual 54, 67, 1, 1, 0) else none)
          else
            bif Nat.beq pc 17 then some (.ifCond .eq (23), 40, 0, 0, 0) else none)
        else
          bif Nat.blt pc 21 then
            (bif Nat.beq pc 20 then some (.aload_n 0, 0, 0, 0, 0) else none)
          else
            bif Nat.beq pc 21 then some (.getfield 11, 9, 0, 1, 0) else none)
      else
        bif Nat.blt pc 26 then
          (bif Nat.blt pc 25 then
            (bif Nat.beq pc 24 then some (.iload_n 1, 1, 0, 0, 0) else none)
          else
            bif Nat.beq pc 25 then some (.aaload, 0, 0, 0, 0) else none)
        else
          bif Nat.blt pc 29 then
            (bif Nat.beq pc 26 then some (.getfield 44, 0, 2, 1, 0) else none)
          else
            bif Nat.blt pc 32 then
              (bif Nat.beq pc 29 then some (.getfield 48, 4, 0, 1, 0) else none)
            else
              bif Nat.beq pc 32 then some (.iload_n 2, 2, 0, 0, 0) else none)
  else
    bif Nat.blt pc 47 then
      (bif Nat.blt pc 41 then
        (bif Nat.blt pc 37 then
          (bif Nat.blt pc 34 then
            (bif Nat.beq pc 33 then some (.aaload, 0, 0, 0, 0) else none)
          else
            bif Nat.beq pc 34 then some (.getfield 78, 5, 6, 0, 0) else none)
        else
          bif Nat.blt pc 40 then
            (bif Nat.beq pc 37 then some (.ifCond .eq (5), 42, 0, 0, 0) else none)
          else
            bif Nat.beq pc 40 then some (.iconst 0, 0, 0, 0, 0) else none)
      else
        bif Nat.blt pc 43 then
          (bif Nat.blt pc 42 then
            (bif Nat.beq pc 41 then some (.ireturn, 0, 0, 1, 0) else none)
          else
            bif Nat.beq pc 42 then some (.aload_n 0, 0, 0, 0, 0) else none)
        else
          bif Nat.blt pc 46 then
            (bif Nat.beq pc 43 then some (.getfield 11, 9, 0, 1, 0) else none)
          else
            bif Nat.beq pc 46 then some (.iload_n 1, 1, 0, 0, 0) else none)
    else
      bif Nat.blt pc 55 then
        (bif Nat.blt pc 51 then
          (bif Nat.blt pc 48 then
            (bif Nat.beq pc 47 then some (.aaload, 0, 0, 0, 0) else none)
          else
            bif Nat.beq pc 48 then some (.getfield 44, 0, 2, 1, 0) else none)
        else
          bif Nat.blt pc 54 then
            (bif Nat.beq pc 51 then some (.getfield 48, 4, 0, 1, 0) else none)
          else
            bif Nat.beq pc 54 then some (.iload_n 2, 2, 0, 0, 0) else none)
      else
        bif Nat.blt pc 57 then
          (bif Nat.blt pc 56 then
            (bif Nat.beq pc 55 then some (.aaload, 0, 0, 0, 0) else none)
          else
            bif Nat.beq pc 56 then some (.iconst 1, 0, 0, 0, 1) else none)
        else
          bif Nat.blt pc 60 then
            (bif Nat.beq pc 57 then some (.putfield 78, 5, 6, 0, 0) else none)
          else
            bif Nat.blt pc 61 then
              (bif Nat.beq pc 60 then some (.iconst 1, 0, 0, 0, 1) else none)
            else
              bif Nat.beq pc 61 then some (.ireturn, 0, 0, 1, 0) else none
def i_X_reset : Nat → Option Ent := ab_tab 62 t_X_reset
def h_X_reset (pc : Nat) : Nat × List Bool := (0, [])
def s_X_reset (pc : Nat) : List (Int32 × Nat) × Nat := ([], 0)
noncomputable def eV_X_reset : Nat → List AV → Mm → Option Mm := ab_ev []
noncomputable def eI_X_reset : Nat → List AV → Mm → Option (Int32 × Mm) := ab_ev [(84, c_X_isStream), (67, c_End_isOpen)]
noncomputable def b_X_reset_0 (f : Nat) (v0 : Nat) (v1 : Int32) (v2 : Int32) (m : Mm) : Option Rs := ab_ex KT none s_X_reset eV_X_reset eI_X_reset i_X_reset h_X_reset f 0 [some (.inr (.inr (1, some v0))), some (.inl v1), some (.inl v2)] [] m
set_option maxRecDepth 100000 in
set_option maxHeartbeats 4000000 in
theorem b_X_reset_0_eq (f : Nat) (v0 : Nat) (v1 : Int32) (v2 : Int32) (m : Mm) : b_X_reset_0 (f + 1) v0 v1 v2 m =
    (r_X_isStream v1 v2 m).bind fun z1 =>
    if z1.1 = 0 then
      (ab_bo (0 : Int32)).bind fun y2 => some (.inl (some (.inl y2), z1.2))
    else
      (ab_ix v1 2).bind fun i3 =>
      (r_End_isOpen ((v0 + 1) + 5 + 30 * i3) z1.2).bind fun z4 =>
      if z4.1 = 0 then
        (ab_bo (0 : Int32)).bind fun y5 => some (.inl (some (.inl y5), z4.2))
      else
        (ab_ix v1 2).bind fun i6 =>
        (ab_ix v2 4).bind fun i7 =>
        if (z4.2.1 63 (((((v0 + 1) + 5 + 30 * i6) + 16) + 1) + 1 + 3 * i7) 0) = 0 then
          (ab_ix v1 2).bind fun i8 =>
          (ab_ix v2 4).bind fun i9 =>
          (ab_bo (1 : Int32)).bind fun y11 =>
          ab_let (ab_uI z4.2 63 (((((v0 + 1) + 5 + 30 * i8) + 16) + 1) + 1 + 3 * i9) 0 y11) fun m10 =>
          (ab_bo (1 : Int32)).bind fun y12 => some (.inl (some (.inl y12), m10))
        else
          (ab_bo (0 : Int32)).bind fun y13 => some (.inl (some (.inl y13), z4.2)) := rfl
noncomputable def r_X_reset : Nat → Int32 → Int32 → Mm → Option (Int32 × Mm) := ab_seal fun v0 v1 v2 m => ab_rI (b_X_reset_0 50000 v0 v1 v2 m)
theorem r_X_reset_eq (v0 : Nat) (v1 : Int32) (v2 : Int32) (m : Mm) : r_X_reset v0 v1 v2 m = ab_rI (b_X_reset_0 50000 v0 v1 v2 m) := by
  unfold r_X_reset
  rw [ab_seal_eq]
noncomputable def c_X_reset : List AV → Mm → Option (Int32 × Mm) := fun av m => match av with
  | [.inr (.inr (kv0, ov0)), .inl v1, .inl v2] => if kv0 = 1 then (ov0.bind fun v0 => r_X_reset v0 v1 v2 m) else none
  | _ => none
theorem c_X_reset_inv {av : List AV} {m : Mm} {r : Int32 × Mm} (h : c_X_reset av m = some r) : ∃ (v0 : Nat) (v1 : Int32) (v2 : Int32), av = [.inr (.inr (1, some v0)), .inl v1, .inl v2] ∧ r_X_reset v0 v1 v2 m = some r := by
  unfold c_X_reset at h
  split at h
  · rename_i kv0 ov0 v1 v2
    by_cases hkv0 : kv0 = 1
    case neg => rw [if_neg hkv0] at h; cases h
    rw [if_pos hkv0] at h
    subst hkv0
    obtain ⟨v0, hev0, h⟩ := Option.bind_eq_some_iff.mp h
    subst hev0
    exact ⟨v0, v1, v2, rfl, h⟩
  · cases h
def cs_X_reset : List Nat := [2, 14]
set_option maxRecDepth 100000 in
theorem E_X_reset : ∀ (pc : Nat) (q : Ent), i_X_reset pc = some q → ab_E KT CL ab_gW "StreamTransport" "reset" (some .boolean) prog_1_method_4_code s_X_reset 3 pc q.1 q.2.1 q.2.2.1 q.2.2.2.1 q.2.2.2.2 := fun pc q hq =>
  ab_Eb_ok lc_X lj_X fl_X (fpn_X "reset") nw_X na_X nq_X (ab_tab_all (t := t_X_reset) (chk := fun pc q => ab_Eb (some .boolean) prog_1_method_4_code s_X_reset 3 LC_X LJ_X FL_X FPn_X NW_X NA_X NQ_X pc q.1 q.2.1 q.2.2.1 q.2.2.2.1 q.2.2.2.2) (by decide +kernel) hq)
set_option maxRecDepth 100000 in
theorem kp_X_reset {av : List AV} {m : Mm} {r : Int32 × Mm} (h : c_X_reset av m = some r) : ab_kp m r.2 := by
  obtain ⟨v0, v1, v2, -, h⟩ := c_X_reset_inv h
  rw [r_X_reset_eq] at h
  have hV : ∀ a av m m', eV_X_reset a av m = some m' → ab_kp m m' := ab_ev_all (P := fun _ m r => ab_kp m r) [] (fun q hq => by cases hq)
  have hI : ∀ a av m q, eI_X_reset a av m = some q → ab_kp m q.2 := ab_ev_all (P := fun _ (m : Mm) (r : Int32 × Mm) => ab_kp m r.2) [(84, c_X_isStream), (67, c_End_isOpen)] (List.forall_mem_cons.mpr ⟨fun av m r h => kp_X_isStream h, List.forall_mem_cons.mpr ⟨fun av m r h => kp_End_isOpen h, fun q hq => by cases hq⟩⟩)
  exact ab_kprel (ρ := .inl (some (.inl r.1), r.2)) (ab_tab_isn (t := t_X_reset) (by decide +kernel)) hV hI (ab_rI_inv h)
set_option maxRecDepth 100000 in
theorem cl_X_reset (l : Launch) : ∀ (pc : Nat) (q : Ent), i_X_reset pc = some q → ab_inv q.1 = true → ab_CR l KT CL none ab_gW "StreamTransport" prog_1_method_4_code 3 2 41 eV_X_reset eI_X_reset pc q := by
  intro pc q hq hi
  have hm : pc ∈ cs_X_reset := ab_tab_cs (t := t_X_reset) (by decide +kernel) hq hi
  simp only [cs_X_reset, List.mem_cons, List.not_mem_nil, or_false] at hm
  rcases hm with rfl | rfl
  · cases (Option.some.inj hq : ((.invokestatic 33, 84, 2, 1, 0) : Ent) = q)
    exact ab_crS (by decide +kernel) cw_X_isStream (ab_gW_in 367 (by decide +kernel) rfl) st_X_isStream (by decide) (fun av m m' h => by cases h) (fun av m r h => cm_X_isStream l h) KT_nd
  · cases (Option.some.inj hq : ((.invokevirtual 54, 67, 1, 1, 0) : Ent) = q)
    exact ab_crV (C := "StreamTransport$End") (by decide +kernel) cw_End_isOpen (ab_gW_in 373 (by decide +kernel) rfl) is_End_isOpen sl_End_isOpen (by decide) (fun av m m' h => by cases h) (fun av m r h => cm_End_isOpen l h) KT_nd
theorem cw_X_reset : ab_cw y_X_reset prog_1_method_4_code 3 2 (some .boolean) := ⟨ab_gW_in 384 (by decide +kernel) rfl, ab_gW_in 61 (by decide +kernel) rfl, by decide +kernel, by decide +kernel, by decide +kernel⟩
theorem is_X_reset : Cond.instanceMethod y_X_reset ∈ ab_gW := ab_gW_in 382 (by decide +kernel) rfl
theorem sl_X_reset : Cond.selects "StreamTransport" y_X_reset y_X_reset ∈ ab_gW := ab_gW_in 383 (by decide +kernel) rfl
set_option maxRecDepth 100000 in
theorem cm_X_reset (l : Launch) {av : List AV} {m : Mm} {r : Int32 × Mm} (h0 : c_X_reset av m = some r) : ∃ (k q : Nat) (av' : List AV) (ci : Nat) (fs : List (Nat × Nat × Nat × Nat)) (z : vw_C), av = .inr (.inr (k, some q)) :: av' ∧ av'.length = 2 ∧ k ≠ 0 ∧ KT[k]? = some (.inl (ci, fs)) ∧ CL[ci]? = some z ∧ z.1 = "StreamTransport" ∧ ab_nos av' ∧ ab_Met l KT CL y_X_reset (Cond.code y_X_reset prog_1_method_4_code 3 (some .boolean) :: ab_gW) 2 41 none av m (some (.inl r.1)) r.2 := by
  obtain ⟨v0, v1, v2, hav, h⟩ := c_X_reset_inv h0
  rw [r_X_reset_eq] at h
  have hmo : ab_mo m r.2 := ab_kp_mo (kp_X_reset h0)
  subst hav
  exact ⟨_, _, _, _, _, _, rfl, rfl, by decide, rfl, rfl, rfl, (by intro v hv q e; subst e; simp at hv), ab_met (by decide +kernel) KT_0 KT_nd KT_k3 E_X_reset (cl_X_reset l) hmo (Nat.le_of_ble_eq_true rfl) (ab_rI_inv h) (fun v hv => by cases hv; exact ⟨_, rfl⟩)⟩
/-! StreamTransport.close(II)Z -/
def y_X_close : MethodName := ⟨"StreamTransport", "close", "(II)Z"⟩
def t_X_close (pc : Nat) : Option Ent :=
  bif Nat.blt pc 24 then
    (bif Nat.blt pc 12 then
      (bif Nat.blt pc 7 then
        (bif Nat.blt pc 1 then
          (bif Nat.beq pc 0 then some (.iload_n 1, 1, 0, 0, 0) else none)
        else
          bif Nat.blt pc 4 then
            (bif Nat.beq pc 1 then some (.invokestatic 113, 83, 1, 1, 0) else none)
          else
            bif Nat.beq pc 4 then some (.ifCond .eq (25), 29, 0, 0, 0) else none)
      else
        bif Nat.blt pc 8 then
          (bif Nat.beq pc 7 then some (.aload_n 0, 0, 0, 0, 0) else none)
        else
          bif Nat.blt pc 11 then
            (bif Nat.beq pc 8 then some (.getfield 11, 9, 0, 1, 0) else none)
          else
            bif Nat.beq pc 11 then some (.iload_n 1, 1, 0, 0, 0) else none)
    else
      bif Nat.blt pc 19 then
        (bif Nat.blt pc 13 then
          (bif Nat.beq pc 12 then some (.aaload, 0, 0, 0, 0) else none)
        else
          bif Nat.blt pc 16 then
            (bif Nat.beq pc 13 then some (.invokevirtual 54, 67, 1, 1, 0) else none)
          else
            bif Nat.beq pc 16 then some (.ifCond .eq (13), 29, 0, 0, 0) else none)
      else
        bif Nat.blt pc 20 then
          (bif Nat.beq pc 19 then some (.iload_n 2, 2, 0, 0, 0) else none)
        else
          bif Nat.blt pc 23 then
            (bif Nat.beq pc 20 then some (.ifCond .lt (9), 29, 0, 0, 0) else none)
          else
            bif Nat.beq pc 23 then some (.iload_n 2, 2, 0, 0, 0) else none)
  else
    bif Nat.blt pc 35 then
      (bif Nat.blt pc 30 then
        (bif Nat.blt pc 26 then
          (bif Nat.beq pc 24 then some (.bipush 63, 0, 0, 0, 63) else none)
        else
          bif Nat.blt pc 29 then
            (bif Nat.beq pc 26 then some (.if_icmp .le (5), 31, 0, 0, 0) else none)
          else
            bif Nat.beq pc 29 then some (.iconst 0, 0, 0, 0, 0) else none)
      else
        bif Nat.blt pc 31 then
          (bif Nat.beq pc 30 then some (.ireturn, 0, 0, 1, 0) else none)
        else
          bif Nat.blt pc 32 then
            (bif Nat.beq pc 31 then some (.aload_n 0, 0, 0, 0, 0) else none)
          else
            bif Nat.beq pc 32 then some (.getfield 11, 9, 0, 1, 0) else none)
    else
      bif Nat.blt pc 38 then
        (bif Nat.blt pc 36 then
          (bif Nat.beq pc 35 then some (.iload_n 1, 1, 0, 0, 0) else none)
        else
          bif Nat.blt pc 37 then
            (bif Nat.beq pc 36 then some (.aaload, 0, 0, 0, 0) else none)
          else
            bif Nat.beq pc 37 then some (.iload_n 2, 2, 0, 0, 0) else none)
      else
        bif Nat.blt pc 42 then
          (bif Nat.blt pc 39 then
            (bif Nat.beq pc 38 then some (.iconst 1, 0, 0, 0, 1) else none)
          else
            bif Nat.beq pc 39 then some (.invokevirtual 116, 68, 3, 0, 0) else none)
        else
          bif Nat.blt pc 43 then
            (bif Nat.beq pc 42 then some (.iconst 1, 0, 0, 0, 1) else none)
          else
            bif Nat.beq pc 43 then some (.ireturn, 0, 0, 1, 0) else none
def i_X_close : Nat → Option Ent := ab_tab 44 t_X_close
def h_X_close (pc : Nat) : Nat × List Bool := (0, [])
def s_X_close (pc : Nat) : List (Int32 × Nat) × Nat := ([], 0)
noncomputable def eV_X_close : Nat → List AV → Mm → Option Mm := ab_ev [(68, c_End_shut)]
noncomputable def eI_X_close : Nat → List AV → Mm → Option (Int32 × Mm) := ab_ev [(83, c_X_isEnd), (67, c_End_isOpen)]
noncomputable def b_X_close_0 (f : Nat) (v0 : Nat) (v1 : Int32) (v2 : Int32) (m : Mm) : Option Rs := ab_ex KT none s_X_close eV_X_close eI_X_close i_X_close h_X_close f 0 [some (.inr (.inr (1, some v0))), some (.inl v1), some (.inl v2)] [] m
set_option maxRecDepth 100000 in
set_option maxHeartbeats 4000000 in
theorem b_X_close_0_eq (f : Nat) (v0 : Nat) (v1 : Int32) (v2 : Int32) (m : Mm) : b_X_close_0 (f + 1) v0 v1 v2 m =
    (r_X_isEnd v1 m).bind fun z1 =>
    if z1.1 = 0 then
      (ab_bo (0 : Int32)).bind fun y2 => some (.inl (some (.inl y2), z1.2))
    else
      (ab_ix v1 2).bind fun i3 =>
      (r_End_isOpen ((v0 + 1) + 5 + 30 * i3) z1.2).bind fun z4 =>
      if z4.1 = 0 then
        (ab_bo (0 : Int32)).bind fun y5 => some (.inl (some (.inl y5), z4.2))
      else
        if v2 < 0 then
          (ab_bo (0 : Int32)).bind fun y6 => some (.inl (some (.inl y6), z4.2))
        else
          if v2 ≤ (63 : Int32) then
            (ab_ix v1 2).bind fun i7 =>
            (r_End_shut ((v0 + 1) + 5 + 30 * i7) v2 (1 : Int32) z4.2).bind fun m8 =>
            (ab_bo (1 : Int32)).bind fun y9 => some (.inl (some (.inl y9), m8))
          else
            (ab_bo (0 : Int32)).bind fun y10 => some (.inl (some (.inl y10), z4.2)) := rfl
noncomputable def r_X_close : Nat → Int32 → Int32 → Mm → Option (Int32 × Mm) := ab_seal fun v0 v1 v2 m => ab_rI (b_X_close_0 50000 v0 v1 v2 m)
theorem r_X_close_eq (v0 : Nat) (v1 : Int32) (v2 : Int32) (m : Mm) : r_X_close v0 v1 v2 m = ab_rI (b_X_close_0 50000 v0 v1 v2 m) := by
  unfold r_X_close
  rw [ab_seal_eq]
noncomputable def c_X_close : List AV → Mm → Option (Int32 × Mm) := fun av m => match av with
  | [.inr (.inr (kv0, ov0)), .inl v1, .inl v2] => if kv0 = 1 then (ov0.bind fun v0 => r_X_close v0 v1 v2 m) else none
  | _ => none
theorem c_X_close_inv {av : List AV} {m : Mm} {r : Int32 × Mm} (h : c_X_close av m = some r) : ∃ (v0 : Nat) (v1 : Int32) (v2 : Int32), av = [.inr (.inr (1, some v0)), .inl v1, .inl v2] ∧ r_X_close v0 v1 v2 m = some r := by
  unfold c_X_close at h
  split at h
  · rename_i kv0 ov0 v1 v2
    by_cases hkv0 : kv0 = 1
    case neg => rw [if_neg hkv0] at h; cases h
    rw [if_pos hkv0] at h
    subst hkv0
    obtain ⟨v0, hev0, h⟩ := Option.bind_eq_some_iff.mp h
    subst hev0
    exact ⟨v0, v1, v2, rfl, h⟩
  · cases h
def cs_X_close : List Nat := [1, 13, 39]
set_option maxRecDepth 100000 in
theorem E_X_close : ∀ (pc : Nat) (q : Ent), i_X_close pc = some q → ab_E KT CL ab_gW "StreamTransport" "close" (some .boolean) prog_1_method_6_code s_X_close 3 pc q.1 q.2.1 q.2.2.1 q.2.2.2.1 q.2.2.2.2 := fun pc q hq =>
  ab_Eb_ok lc_X lj_X fl_X (fpn_X "close") nw_X na_X nq_X (ab_tab_all (t := t_X_close) (chk := fun pc q => ab_Eb (some .boolean) prog_1_method_6_code s_X_close 3 LC_X LJ_X FL_X FPn_X NW_X NA_X NQ_X pc q.1 q.2.1 q.2.2.1 q.2.2.2.1 q.2.2.2.2) (by decide +kernel) hq)
set_option maxRecDepth 100000 in
theorem kp_X_close {av : List AV} {m : Mm} {r : Int32 × Mm} (h : c_X_close av m = some r) : ab_kp m r.2 := by
  obtain ⟨v0, v1, v2, -, h⟩ := c_X_close_inv h
  rw [r_X_close_eq] at h
  have hV : ∀ a av m m', eV_X_close a av m = some m' → ab_kp m m' := ab_ev_all (P := fun _ m r => ab_kp m r) [(68, c_End_shut)] (List.forall_mem_cons.mpr ⟨fun av m r h => kp_End_shut h, fun q hq => by cases hq⟩)
  have hI : ∀ a av m q, eI_X_close a av m = some q → ab_kp m q.2 := ab_ev_all (P := fun _ (m : Mm) (r : Int32 × Mm) => ab_kp m r.2) [(83, c_X_isEnd), (67, c_End_isOpen)] (List.forall_mem_cons.mpr ⟨fun av m r h => kp_X_isEnd h, List.forall_mem_cons.mpr ⟨fun av m r h => kp_End_isOpen h, fun q hq => by cases hq⟩⟩)
  exact ab_kprel (ρ := .inl (some (.inl r.1), r.2)) (ab_tab_isn (t := t_X_close) (by decide +kernel)) hV hI (ab_rI_inv h)
set_option maxRecDepth 100000 in
theorem cl_X_close (l : Launch) : ∀ (pc : Nat) (q : Ent), i_X_close pc = some q → ab_inv q.1 = true → ab_CR l KT CL none ab_gW "StreamTransport" prog_1_method_6_code 3 1 22 eV_X_close eI_X_close pc q := by
  intro pc q hq hi
  have hm : pc ∈ cs_X_close := ab_tab_cs (t := t_X_close) (by decide +kernel) hq hi
  simp only [cs_X_close, List.mem_cons, List.not_mem_nil, or_false] at hm
  rcases hm with rfl | rfl | rfl
  · cases (Option.some.inj hq : ((.invokestatic 113, 83, 1, 1, 0) : Ent) = q)
    exact ab_crS (by decide +kernel) cw_X_isEnd (ab_gW_in 370 (by decide +kernel) rfl) st_X_isEnd (by decide) (fun av m m' h => by cases h) (fun av m r h => cm_X_isEnd l h) KT_nd
  · cases (Option.some.inj hq : ((.invokevirtual 54, 67, 1, 1, 0) : Ent) = q)
    exact ab_crV (C := "StreamTransport$End") (by decide +kernel) cw_End_isOpen (ab_gW_in 373 (by decide +kernel) rfl) is_End_isOpen sl_End_isOpen (by decide) (fun av m m' h => by cases h) (fun av m r h => cm_End_isOpen l h) KT_nd
  · cases (Option.some.inj hq : ((.invokevirtual 116, 68, 3, 0, 0) : Ent) = q)
    exact ab_crV (C := "StreamTransport$End") (by decide +kernel) cw_End_shut (ab_gW_in 389 (by decide +kernel) rfl) is_End_shut sl_End_shut (by decide) (fun av m m' h => cm_End_shut l h) (fun av m r h => by cases h) KT_nd
theorem cw_X_close : ab_cw y_X_close prog_1_method_6_code 3 2 (some .boolean) := ⟨ab_gW_in 388 (by decide +kernel) rfl, ab_gW_in 61 (by decide +kernel) rfl, by decide +kernel, by decide +kernel, by decide +kernel⟩
theorem is_X_close : Cond.instanceMethod y_X_close ∈ ab_gW := ab_gW_in 386 (by decide +kernel) rfl
theorem sl_X_close : Cond.selects "StreamTransport" y_X_close y_X_close ∈ ab_gW := ab_gW_in 387 (by decide +kernel) rfl
set_option maxRecDepth 100000 in
theorem cm_X_close (l : Launch) {av : List AV} {m : Mm} {r : Int32 × Mm} (h0 : c_X_close av m = some r) : ∃ (k q : Nat) (av' : List AV) (ci : Nat) (fs : List (Nat × Nat × Nat × Nat)) (z : vw_C), av = .inr (.inr (k, some q)) :: av' ∧ av'.length = 2 ∧ k ≠ 0 ∧ KT[k]? = some (.inl (ci, fs)) ∧ CL[ci]? = some z ∧ z.1 = "StreamTransport" ∧ ab_nos av' ∧ ab_Met l KT CL y_X_close (Cond.code y_X_close prog_1_method_6_code 3 (some .boolean) :: ab_gW) 1 22 none av m (some (.inl r.1)) r.2 := by
  obtain ⟨v0, v1, v2, hav, h⟩ := c_X_close_inv h0
  rw [r_X_close_eq] at h
  have hmo : ab_mo m r.2 := ab_kp_mo (kp_X_close h0)
  subst hav
  exact ⟨_, _, _, _, _, _, rfl, rfl, by decide, rfl, rfl, rfl, (by intro v hv q e; subst e; simp at hv), ab_met (by decide +kernel) KT_0 KT_nd KT_k3 E_X_close (cl_X_close l) hmo (Nat.le_of_ble_eq_true rfl) (ab_rI_inv h) (fun v hv => by cases hv; exact ⟨_, rfl⟩)⟩
/-! StreamTransport.lose(I)Z -/
def y_X_lose : MethodName := ⟨"StreamTransport", "lose", "(I)Z"⟩
def t_X_lose (pc : Nat) : Option Ent :=
  bif Nat.blt pc 9 then
    (bif Nat.blt pc 2 then
      (bif Nat.blt pc 1 then
        (bif Nat.beq pc 0 then some (.aload_n 0, 0, 0, 0, 0) else none)
      else
        bif Nat.beq pc 1 then some (.iload_n 1, 1, 0, 0, 0) else none)
    else
      bif Nat.blt pc 5 then
        (bif Nat.beq pc 2 then some (.invokevirtual 130, 86, 2, 1, 0) else none)
      else
        bif Nat.blt pc 8 then
          (bif Nat.beq pc 5 then some (.ifCond .ne (5), 10, 0, 0, 0) else none)
        else
          bif Nat.beq pc 8 then some (.iconst 0, 0, 0, 0, 0) else none)
  else
    bif Nat.blt pc 12 then
      (bif Nat.blt pc 10 then
        (bif Nat.beq pc 9 then some (.ireturn, 0, 0, 1, 0) else none)
      else
        bif Nat.blt pc 11 then
          (bif Nat.beq pc 10 then some (.aload_n 0, 0, 0, 0, 0) else none)
        else
          bif Nat.beq pc 11 then some (.iload_n 1, 1, 0, 0, 0) else none)
    else
      bif Nat.blt pc 15 then
        (bif Nat.beq pc 12 then some (.invokevirtual 133, 87, 2, 0, 0) else none)
      else
        bif Nat.blt pc 16 then
          (bif Nat.beq pc 15 then some (.iconst 1, 0, 0, 0, 1) else none)
        else
          bif Nat.beq pc 16 then some (.ireturn, 0, 0, 1, 0) else none
def i_X_lose : Nat → Option Ent := ab_tab 17 t_X_lose
def h_X_lose (pc : Nat) : Nat × List Bool := (0, [])
def s_X_lose (pc : Nat) : List (Int32 × Nat) × Nat := ([], 0)
noncomputable def eV_X_lose : Nat → List AV → Mm → Option Mm := ab_ev [(87, c_X_takeOffWay)]
noncomputable def eI_X_lose : Nat → List AV → Mm → Option (Int32 × Mm) := ab_ev [(86, c_X_isUnderWay)]
noncomputable def b_X_lose_0 (f : Nat) (v0 : Nat) (v1 : Int32) (m : Mm) : Option Rs := ab_ex KT none s_X_lose eV_X_lose eI_X_lose i_X_lose h_X_lose f 0 [some (.inr (.inr (1, some v0))), some (.inl v1)] [] m
set_option maxRecDepth 100000 in
set_option maxHeartbeats 4000000 in
theorem b_X_lose_0_eq (f : Nat) (v0 : Nat) (v1 : Int32) (m : Mm) : b_X_lose_0 (f + 1) v0 v1 m =
    (r_X_isUnderWay v0 v1 m).bind fun z1 =>
    if z1.1 = 0 then
      (ab_bo (0 : Int32)).bind fun y4 => some (.inl (some (.inl y4), z1.2))
    else
      (r_X_takeOffWay v0 v1 z1.2).bind fun m2 =>
      (ab_bo (1 : Int32)).bind fun y3 => some (.inl (some (.inl y3), m2)) := rfl
noncomputable def r_X_lose : Nat → Int32 → Mm → Option (Int32 × Mm) := ab_seal fun v0 v1 m => ab_rI (b_X_lose_0 50000 v0 v1 m)
theorem r_X_lose_eq (v0 : Nat) (v1 : Int32) (m : Mm) : r_X_lose v0 v1 m = ab_rI (b_X_lose_0 50000 v0 v1 m) := by
  unfold r_X_lose
  rw [ab_seal_eq]
noncomputable def c_X_lose : List AV → Mm → Option (Int32 × Mm) := fun av m => match av with
  | [.inr (.inr (kv0, ov0)), .inl v1] => if kv0 = 1 then (ov0.bind fun v0 => r_X_lose v0 v1 m) else none
  | _ => none
theorem c_X_lose_inv {av : List AV} {m : Mm} {r : Int32 × Mm} (h : c_X_lose av m = some r) : ∃ (v0 : Nat) (v1 : Int32), av = [.inr (.inr (1, some v0)), .inl v1] ∧ r_X_lose v0 v1 m = some r := by
  unfold c_X_lose at h
  split at h
  · rename_i kv0 ov0 v1
    by_cases hkv0 : kv0 = 1
    case neg => rw [if_neg hkv0] at h; cases h
    rw [if_pos hkv0] at h
    subst hkv0
    obtain ⟨v0, hev0, h⟩ := Option.bind_eq_some_iff.mp h
    subst hev0
    exact ⟨v0, v1, rfl, h⟩
  · cases h
def cs_X_lose : List Nat := [2, 12]
set_option maxRecDepth 100000 in
theorem E_X_lose : ∀ (pc : Nat) (q : Ent), i_X_lose pc = some q → ab_E KT CL ab_gW "StreamTransport" "lose" (some .boolean) prog_1_method_9_code s_X_lose 2 pc q.1 q.2.1 q.2.2.1 q.2.2.2.1 q.2.2.2.2 := fun pc q hq =>
  ab_Eb_ok lc_X lj_X fl_X (fpn_X "lose") nw_X na_X nq_X (ab_tab_all (t := t_X_lose) (chk := fun pc q => ab_Eb (some .boolean) prog_1_method_9_code s_X_lose 2 LC_X LJ_X FL_X FPn_X NW_X NA_X NQ_X pc q.1 q.2.1 q.2.2.1 q.2.2.2.1 q.2.2.2.2) (by decide +kernel) hq)
set_option maxRecDepth 100000 in
theorem kp_X_lose {av : List AV} {m : Mm} {r : Int32 × Mm} (h : c_X_lose av m = some r) : ab_kp m r.2 := by
  obtain ⟨v0, v1, -, h⟩ := c_X_lose_inv h
  rw [r_X_lose_eq] at h
  have hV : ∀ a av m m', eV_X_lose a av m = some m' → ab_kp m m' := ab_ev_all (P := fun _ m r => ab_kp m r) [(87, c_X_takeOffWay)] (List.forall_mem_cons.mpr ⟨fun av m r h => kp_X_takeOffWay h, fun q hq => by cases hq⟩)
  have hI : ∀ a av m q, eI_X_lose a av m = some q → ab_kp m q.2 := ab_ev_all (P := fun _ (m : Mm) (r : Int32 × Mm) => ab_kp m r.2) [(86, c_X_isUnderWay)] (List.forall_mem_cons.mpr ⟨fun av m r h => kp_X_isUnderWay h, fun q hq => by cases hq⟩)
  exact ab_kprel (ρ := .inl (some (.inl r.1), r.2)) (ab_tab_isn (t := t_X_lose) (by decide +kernel)) hV hI (ab_rI_inv h)
set_option maxRecDepth 100000 in
theorem cl_X_lose (l : Launch) : ∀ (pc : Nat) (q : Ent), i_X_lose pc = some q → ab_inv q.1 = true → ab_CR l KT CL none ab_gW "StreamTransport" prog_1_method_9_code 2 1 23 eV_X_lose eI_X_lose pc q := by
  intro pc q hq hi
  have hm : pc ∈ cs_X_lose := ab_tab_cs (t := t_X_lose) (by decide +kernel) hq hi
  simp only [cs_X_lose, List.mem_cons, List.not_mem_nil, or_false] at hm
  rcases hm with rfl | rfl
  · cases (Option.some.inj hq : ((.invokevirtual 130, 86, 2, 1, 0) : Ent) = q)
    exact ab_crV (C := "StreamTransport") (by decide +kernel) cw_X_isUnderWay (ab_gW_in 602 (by decide +kernel) rfl) is_X_isUnderWay sl_X_isUnderWay (by decide) (fun av m m' h => by cases h) (fun av m r h => cm_X_isUnderWay l h) KT_nd
  · cases (Option.some.inj hq : ((.invokevirtual 133, 87, 2, 0, 0) : Ent) = q)
    exact ab_crV (C := "StreamTransport") (by decide +kernel) cw_X_takeOffWay (ab_gW_in 606 (by decide +kernel) rfl) is_X_takeOffWay sl_X_takeOffWay (by decide) (fun av m m' h => cm_X_takeOffWay l h) (fun av m r h => by cases h) KT_nd
theorem cw_X_lose : ab_cw y_X_lose prog_1_method_9_code 2 1 (some .boolean) := ⟨ab_gW_in 754 (by decide +kernel) rfl, ab_gW_in 61 (by decide +kernel) rfl, by decide +kernel, by decide +kernel, by decide +kernel⟩
theorem is_X_lose : Cond.instanceMethod y_X_lose ∈ ab_gW := ab_gW_in 752 (by decide +kernel) rfl
theorem sl_X_lose : Cond.selects "StreamTransport" y_X_lose y_X_lose ∈ ab_gW := ab_gW_in 753 (by decide +kernel) rfl
set_option maxRecDepth 100000 in
theorem cm_X_lose (l : Launch) {av : List AV} {m : Mm} {r : Int32 × Mm} (h0 : c_X_lose av m = some r) : ∃ (k q : Nat) (av' : List AV) (ci : Nat) (fs : List (Nat × Nat × Nat × Nat)) (z : vw_C), av = .inr (.inr (k, some q)) :: av' ∧ av'.length = 1 ∧ k ≠ 0 ∧ KT[k]? = some (.inl (ci, fs)) ∧ CL[ci]? = some z ∧ z.1 = "StreamTransport" ∧ ab_nos av' ∧ ab_Met l KT CL y_X_lose (Cond.code y_X_lose prog_1_method_9_code 2 (some .boolean) :: ab_gW) 1 23 none av m (some (.inl r.1)) r.2 := by
  obtain ⟨v0, v1, hav, h⟩ := c_X_lose_inv h0
  rw [r_X_lose_eq] at h
  have hmo : ab_mo m r.2 := ab_kp_mo (kp_X_lose h0)
  subst hav
  exact ⟨_, _, _, _, _, _, rfl, rfl, by decide, rfl, rfl, rfl, (by intro v hv q e; subst e; simp at hv), ab_met (by decide +kernel) KT_0 KT_nd KT_k3 E_X_lose (cl_X_lose l) hmo (Nat.le_of_ble_eq_true rfl) (ab_rI_inv h) (fun v hv => by cases hv; exact ⟨_, rfl⟩)⟩
/-! StreamTransport.deliver(I)I -/
def y_X_deliver : MethodName := ⟨"StreamTransport", "deliver", "(I)I"⟩
def t_X_deliver (pc : Nat) : Option Ent :=
  bif Nat.blt pc 19 then
    (bif Nat.blt pc 10 then
      (bif Nat.blt pc 5 then
        (bif Nat.blt pc 1 then
          (bif Nat.beq pc 0 then some (.aload_n 0, 0, 0, 0, 0) else none)
        else
          bif Nat.blt pc 2 then
            (bif Nat.beq pc 1 then some (.iload_n 1, 1, 0, 0, 0) else none)
          else
            bif Nat.beq pc 2 then some (.invokevirtual 130, 86, 2, 1, 0) else none)
      else
        bif Nat.blt pc 8 then
          (bif Nat.beq pc 5 then some (.ifCond .ne (5), 10, 0, 0, 0) else none)
        else
          bif Nat.blt pc 9 then
            (bif Nat.beq pc 8 then some (.iconst (-1), 0, 0, 0, -1) else none)
          else
            bif Nat.beq pc 9 then some (.ireturn, 0, 0, 0, 0) else none)
    else
      bif Nat.blt pc 15 then
        (bif Nat.blt pc 11 then
          (bif Nat.beq pc 10 then some (.aload_n 0, 0, 0, 0, 0) else none)
        else
          bif Nat.blt pc 14 then
            (bif Nat.beq pc 11 then some (.getfield 17, 9, 1, 1, 0) else none)
          else
            bif Nat.beq pc 14 then some (.iload_n 1, 1, 0, 0, 0) else none)
      else
        bif Nat.blt pc 17 then
          (bif Nat.blt pc 16 then
            (bif Nat.beq pc 15 then some (.aaload, 0, 0, 0, 0) else none)
          else
            bif Nat.beq pc 16 then some (.astore_n 2, 2, 0, 0, 0) else none)
        else
          bif Nat.blt pc 18 then
            (bif Nat.beq pc 17 then some (.aload_n 0, 0, 0, 0, 0) else none)
          else
            bif Nat.beq pc 18 then some (.iload_n 1, 1, 0, 0, 0) else none)
  else
    bif Nat.blt pc 33 then
      (bif Nat.blt pc 26 then
        (bif Nat.blt pc 22 then
          (bif Nat.beq pc 19 then some (.invokevirtual 133, 87, 2, 0, 0) else none)
        else
          bif Nat.blt pc 23 then
            (bif Nat.beq pc 22 then some (.aload_n 0, 0, 0, 0, 0) else none)
          else
            bif Nat.beq pc 23 then some (.getfield 11, 9, 0, 1, 0) else none)
      else
        bif Nat.blt pc 27 then
          (bif Nat.beq pc 26 then some (.aload_n 2, 2, 0, 0, 0) else none)
        else
          bif Nat.blt pc 30 then
            (bif Nat.beq pc 27 then some (.getfield 137, 7, 2, 0, 0) else none)
          else
            bif Nat.beq pc 30 then some (.ifCond .ne (7), 37, 0, 0, 0) else none)
    else
      bif Nat.blt pc 38 then
        (bif Nat.blt pc 34 then
          (bif Nat.beq pc 33 then some (.iconst 1, 0, 0, 0, 1) else none)
        else
          bif Nat.blt pc 37 then
            (bif Nat.beq pc 34 then some (.goto 4, 38, 0, 0, 0) else none)
          else
            bif Nat.beq pc 37 then some (.iconst 0, 0, 0, 0, 0) else none)
      else
        bif Nat.blt pc 40 then
          (bif Nat.blt pc 39 then
            (bif Nat.beq pc 38 then some (.aaload, 0, 0, 0, 0) else none)
          else
            bif Nat.beq pc 39 then some (.aload_n 2, 2, 0, 0, 0) else none)
        else
          bif Nat.blt pc 43 then
            (bif Nat.beq pc 40 then some (.invokevirtual 140, 77, 2, 1, 0) else none)
          else
            bif Nat.beq pc 43 then some (.ireturn, 0, 0, 0, 0) else none
def i_X_deliver : Nat → Option Ent := ab_tab 44 t_X_deliver
def h_X_deliver (pc : Nat) : Nat × List Bool := bif Nat.beq pc 38 then (1, [false, false, true]) else (0, [])
def s_X_deliver (pc : Nat) : List (Int32 × Nat) × Nat := ([], 0)
noncomputable def eV_X_deliver : Nat → List AV → Mm → Option Mm := ab_ev [(87, c_X_takeOffWay)]
noncomputable def eI_X_deliver : Nat → List AV → Mm → Option (Int32 × Mm) := ab_ev [(86, c_X_isUnderWay), (77, c_End_receive)]
noncomputable def b_X_deliver_0 (f : Nat) (v0 : Nat) (v1 : Int32) (m : Mm) : Option Rs := ab_ex KT none s_X_deliver eV_X_deliver eI_X_deliver i_X_deliver h_X_deliver f 0 [some (.inr (.inr (1, some v0))), some (.inl v1), none] [] m
noncomputable def b_X_deliver_38 (f : Nat) (v2 : Nat) (u0 : Nat) (u1 : Int32) (m : Mm) : Option Rs := ab_ex KT none s_X_deliver eV_X_deliver eI_X_deliver i_X_deliver h_X_deliver f 38 [none, none, some (.inr (.inr (4, some v2)))] [.inl u1, .inr (.inr (2, some u0))] m
set_option maxRecDepth 100000 in
set_option maxHeartbeats 4000000 in
theorem b_X_deliver_0_eq (f : Nat) (v0 : Nat) (v1 : Int32) (m : Mm) : b_X_deliver_0 (f + 1) v0 v1 m =
    (r_X_isUnderWay v0 v1 m).bind fun z1 =>
    if z1.1 = 0 then
      some (.inl (some (.inl (-1 : Int32)), z1.2))
    else
      (ab_ix v1 16).bind fun i2 =>
      (z1.2.2.2.1 9 (v0 + 2) i2).bind fun q3 =>
        (r_X_takeOffWay v0 v1 z1.2).bind fun m4 =>
      if (m4.1 12 q3 0) = 0 then
        b_X_deliver_38 f q3 (v0 + 1) (1 : Int32) m4
      else
        b_X_deliver_38 f q3 (v0 + 1) (0 : Int32) m4 := rfl
set_option maxRecDepth 100000 in
set_option maxHeartbeats 4000000 in
theorem b_X_deliver_38_eq (f : Nat) (v2 : Nat) (u0 : Nat) (u1 : Int32) (m : Mm) : b_X_deliver_38 (f + 1) v2 u0 u1 m =
    (ab_ix u1 2).bind fun i1 =>
    (r_End_receive (u0 + 5 + 30 * i1) v2 m).bind fun z2 =>
    some (.inl (some (.inl z2.1), z2.2)) := rfl
noncomputable def r_X_deliver : Nat → Int32 → Mm → Option (Int32 × Mm) := ab_seal fun v0 v1 m => ab_rI (b_X_deliver_0 50000 v0 v1 m)
theorem r_X_deliver_eq (v0 : Nat) (v1 : Int32) (m : Mm) : r_X_deliver v0 v1 m = ab_rI (b_X_deliver_0 50000 v0 v1 m) := by
  unfold r_X_deliver
  rw [ab_seal_eq]
noncomputable def c_X_deliver : List AV → Mm → Option (Int32 × Mm) := fun av m => match av with
  | [.inr (.inr (kv0, ov0)), .inl v1] => if kv0 = 1 then (ov0.bind fun v0 => r_X_deliver v0 v1 m) else none
  | _ => none
theorem c_X_deliver_inv {av : List AV} {m : Mm} {r : Int32 × Mm} (h : c_X_deliver av m = some r) : ∃ (v0 : Nat) (v1 : Int32), av = [.inr (.inr (1, some v0)), .inl v1] ∧ r_X_deliver v0 v1 m = some r := by
  unfold c_X_deliver at h
  split at h
  · rename_i kv0 ov0 v1
    by_cases hkv0 : kv0 = 1
    case neg => rw [if_neg hkv0] at h; cases h
    rw [if_pos hkv0] at h
    subst hkv0
    obtain ⟨v0, hev0, h⟩ := Option.bind_eq_some_iff.mp h
    subst hev0
    exact ⟨v0, v1, rfl, h⟩
  · cases h
def cs_X_deliver : List Nat := [2, 19, 40]
set_option maxRecDepth 100000 in
theorem E_X_deliver : ∀ (pc : Nat) (q : Ent), i_X_deliver pc = some q → ab_E KT CL ab_gW "StreamTransport" "deliver" (some .int) prog_1_method_8_code s_X_deliver 3 pc q.1 q.2.1 q.2.2.1 q.2.2.2.1 q.2.2.2.2 := fun pc q hq =>
  ab_Eb_ok lc_X lj_X fl_X (fpn_X "deliver") nw_X na_X nq_X (ab_tab_all (t := t_X_deliver) (chk := fun pc q => ab_Eb (some .int) prog_1_method_8_code s_X_deliver 3 LC_X LJ_X FL_X FPn_X NW_X NA_X NQ_X pc q.1 q.2.1 q.2.2.1 q.2.2.2.1 q.2.2.2.2) (by decide +kernel) hq)
set_option maxRecDepth 100000 in
theorem kp_X_deliver {av : List AV} {m : Mm} {r : Int32 × Mm} (h : c_X_deliver av m = some r) : ab_kp m r.2 := by
  obtain ⟨v0, v1, -, h⟩ := c_X_deliver_inv h
  rw [r_X_deliver_eq] at h
  have hV : ∀ a av m m', eV_X_deliver a av m = some m' → ab_kp m m' := ab_ev_all (P := fun _ m r => ab_kp m r) [(87, c_X_takeOffWay)] (List.forall_mem_cons.mpr ⟨fun av m r h => kp_X_takeOffWay h, fun q hq => by cases hq⟩)
  have hI : ∀ a av m q, eI_X_deliver a av m = some q → ab_kp m q.2 := ab_ev_all (P := fun _ (m : Mm) (r : Int32 × Mm) => ab_kp m r.2) [(86, c_X_isUnderWay), (77, c_End_receive)] (List.forall_mem_cons.mpr ⟨fun av m r h => kp_X_isUnderWay h, List.forall_mem_cons.mpr ⟨fun av m r h => kp_End_receive h, fun q hq => by cases hq⟩⟩)
  exact ab_kprel (ρ := .inl (some (.inl r.1), r.2)) (ab_tab_isn (t := t_X_deliver) (by decide +kernel)) hV hI (ab_rI_inv h)
set_option maxRecDepth 100000 in
theorem cl_X_deliver (l : Launch) : ∀ (pc : Nat) (q : Ent), i_X_deliver pc = some q → ab_inv q.1 = true → ab_CR l KT CL none ab_gW "StreamTransport" prog_1_method_8_code 3 7 159 eV_X_deliver eI_X_deliver pc q := by
  intro pc q hq hi
  have hm : pc ∈ cs_X_deliver := ab_tab_cs (t := t_X_deliver) (by decide +kernel) hq hi
  simp only [cs_X_deliver, List.mem_cons, List.not_mem_nil, or_false] at hm
  rcases hm with rfl | rfl | rfl
  · cases (Option.some.inj hq : ((.invokevirtual 130, 86, 2, 1, 0) : Ent) = q)
    exact ab_crV (C := "StreamTransport") (by decide +kernel) cw_X_isUnderWay (ab_gW_in 602 (by decide +kernel) rfl) is_X_isUnderWay sl_X_isUnderWay (by decide) (fun av m m' h => by cases h) (fun av m r h => cm_X_isUnderWay l h) KT_nd
  · cases (Option.some.inj hq : ((.invokevirtual 133, 87, 2, 0, 0) : Ent) = q)
    exact ab_crV (C := "StreamTransport") (by decide +kernel) cw_X_takeOffWay (ab_gW_in 606 (by decide +kernel) rfl) is_X_takeOffWay sl_X_takeOffWay (by decide) (fun av m m' h => cm_X_takeOffWay l h) (fun av m r h => by cases h) KT_nd
  · cases (Option.some.inj hq : ((.invokevirtual 140, 77, 2, 1, 0) : Ent) = q)
    exact ab_crV (C := "StreamTransport$End") (by decide +kernel) cw_End_receive (ab_gW_in 610 (by decide +kernel) rfl) is_End_receive sl_End_receive (by decide) (fun av m m' h => by cases h) (fun av m r h => cm_End_receive l h) KT_nd
theorem cw_X_deliver : ab_cw y_X_deliver prog_1_method_8_code 3 1 (some .int) := ⟨ab_gW_in 601 (by decide +kernel) rfl, ab_gW_in 61 (by decide +kernel) rfl, by decide +kernel, by decide +kernel, by decide +kernel⟩
theorem is_X_deliver : Cond.instanceMethod y_X_deliver ∈ ab_gW := ab_gW_in 599 (by decide +kernel) rfl
theorem sl_X_deliver : Cond.selects "StreamTransport" y_X_deliver y_X_deliver ∈ ab_gW := ab_gW_in 600 (by decide +kernel) rfl
set_option maxRecDepth 100000 in
theorem cm_X_deliver (l : Launch) {av : List AV} {m : Mm} {r : Int32 × Mm} (h0 : c_X_deliver av m = some r) : ∃ (k q : Nat) (av' : List AV) (ci : Nat) (fs : List (Nat × Nat × Nat × Nat)) (z : vw_C), av = .inr (.inr (k, some q)) :: av' ∧ av'.length = 1 ∧ k ≠ 0 ∧ KT[k]? = some (.inl (ci, fs)) ∧ CL[ci]? = some z ∧ z.1 = "StreamTransport" ∧ ab_nos av' ∧ ab_Met l KT CL y_X_deliver (Cond.code y_X_deliver prog_1_method_8_code 3 (some .int) :: ab_gW) 7 159 none av m (some (.inl r.1)) r.2 := by
  obtain ⟨v0, v1, hav, h⟩ := c_X_deliver_inv h0
  rw [r_X_deliver_eq] at h
  have hmo : ab_mo m r.2 := ab_kp_mo (kp_X_deliver h0)
  subst hav
  exact ⟨_, _, _, _, _, _, rfl, rfl, by decide, rfl, rfl, rfl, (by intro v hv q e; subst e; simp at hv), ab_met (by decide +kernel) KT_0 KT_nd KT_k3 E_X_deliver (cl_X_deliver l) hmo (Nat.le_of_ble_eq_true rfl) (ab_rI_inv h) (fun v hv => by cases hv; exact ⟨_, rfl⟩)⟩
/-! StreamTransport.spoil(III)Z -/
def y_X_spoil : MethodName := ⟨"StreamTransport", "spoil", "(III)Z"⟩
def t_X_spoil (pc : Nat) : Option Ent :=
  bif Nat.blt pc 31 then
    (bif Nat.blt pc 14 then
      (bif Nat.blt pc 8 then
        (bif Nat.blt pc 2 then
          (bif Nat.blt pc 1 then
            (bif Nat.beq pc 0 then some (.aload_n 0, 0, 0, 0, 0) else none)
          else
            bif Nat.beq pc 1 then some (.iload_n 1, 1, 0, 0, 0) else none)
        else
          bif Nat.blt pc 5 then
            (bif Nat.beq pc 2 then some (.invokevirtual 130, 86, 2, 1, 0) else none)
          else
            bif Nat.beq pc 5 then some (.ifCond .eq (32), 37, 0, 0, 0) else none)
      else
        bif Nat.blt pc 12 then
          (bif Nat.blt pc 9 then
            (bif Nat.beq pc 8 then some (.iload_n 2, 2, 0, 0, 0) else none)
          else
            bif Nat.beq pc 9 then some (.ifCond .lt (28), 37, 0, 0, 0) else none)
        else
          bif Nat.blt pc 13 then
            (bif Nat.beq pc 12 then some (.iload_n 2, 2, 0, 0, 0) else none)
          else
            bif Nat.beq pc 13 then some (.aload_n 0, 0, 0, 0, 0) else none)
    else
      bif Nat.blt pc 22 then
        (bif Nat.blt pc 18 then
          (bif Nat.blt pc 17 then
            (bif Nat.beq pc 14 then some (.getfield 17, 9, 1, 1, 0) else none)
          else
            bif Nat.beq pc 17 then some (.iload_n 1, 1, 0, 0, 0) else none)
        else
          bif Nat.blt pc 19 then
            (bif Nat.beq pc 18 then some (.aaload, 0, 0, 0, 0) else none)
          else
            bif Nat.beq pc 19 then some (.getfield 148, 7, 1, 0, 0) else none)
      else
        bif Nat.blt pc 26 then
          (bif Nat.blt pc 25 then
            (bif Nat.beq pc 22 then some (.if_icmp .ge (15), 37, 0, 0, 0) else none)
          else
            bif Nat.beq pc 25 then some (.iload_n 3, 3, 0, 0, 0) else none)
        else
          bif Nat.blt pc 27 then
            (bif Nat.beq pc 26 then some (.iconst 1, 0, 0, 0, 1) else none)
          else
            bif Nat.blt pc 30 then
              (bif Nat.beq pc 27 then some (.if_icmp .lt (10), 37, 0, 0, 0) else none)
            else
              bif Nat.beq pc 30 then some (.iload_n 3, 3, 0, 0, 0) else none)
  else
    bif Nat.blt pc 45 then
      (bif Nat.blt pc 39 then
        (bif Nat.blt pc 37 then
          (bif Nat.blt pc 34 then
            (bif Nat.beq pc 31 then some (.sipush 255, 0, 0, 0, 255) else none)
          else
            bif Nat.beq pc 34 then some (.if_icmp .le (5), 39, 0, 0, 0) else none)
        else
          bif Nat.blt pc 38 then
            (bif Nat.beq pc 37 then some (.iconst 0, 0, 0, 0, 0) else none)
          else
            bif Nat.beq pc 38 then some (.ireturn, 0, 0, 1, 0) else none)
      else
        bif Nat.blt pc 43 then
          (bif Nat.blt pc 40 then
            (bif Nat.beq pc 39 then some (.aload_n 0, 0, 0, 0, 0) else none)
          else
            bif Nat.beq pc 40 then some (.getfield 17, 9, 1, 1, 0) else none)
        else
          bif Nat.blt pc 44 then
            (bif Nat.beq pc 43 then some (.iload_n 1, 1, 0, 0, 0) else none)
          else
            bif Nat.beq pc 44 then some (.aaload, 0, 0, 0, 0) else none)
    else
      bif Nat.blt pc 51 then
        (bif Nat.blt pc 49 then
          (bif Nat.blt pc 48 then
            (bif Nat.beq pc 45 then some (.getfield 149, 7, 0, 1, 0) else none)
          else
            bif Nat.beq pc 48 then some (.iload_n 2, 2, 0, 0, 0) else none)
        else
          bif Nat.blt pc 50 then
            (bif Nat.beq pc 49 then some (.dup2, 0, 0, 0, 0) else none)
          else
            bif Nat.beq pc 50 then some (.iaload, 0, 0, 0, 0) else none)
      else
        bif Nat.blt pc 53 then
          (bif Nat.blt pc 52 then
            (bif Nat.beq pc 51 then some (.iload_n 3, 3, 0, 0, 0) else none)
          else
            bif Nat.beq pc 52 then some (.ixor, 0, 0, 0, 0) else none)
        else
          bif Nat.blt pc 54 then
            (bif Nat.beq pc 53 then some (.iastore, 0, 0, 0, 0) else none)
          else
            bif Nat.blt pc 55 then
              (bif Nat.beq pc 54 then some (.iconst 1, 0, 0, 0, 1) else none)
            else
              bif Nat.beq pc 55 then some (.ireturn, 0, 0, 1, 0) else none
def i_X_spoil : Nat → Option Ent := ab_tab 56 t_X_spoil
def h_X_spoil (pc : Nat) : Nat × List Bool := (0, [])
def s_X_spoil (pc : Nat) : List (Int32 × Nat) × Nat := ([], 0)
noncomputable def eV_X_spoil : Nat → List AV → Mm → Option Mm := ab_ev []
noncomputable def eI_X_spoil : Nat → List AV → Mm → Option (Int32 × Mm) := ab_ev [(86, c_X_isUnderWay)]
noncomputable def b_X_spoil_0 (f : Nat) (v0 : Nat) (v1 : Int32) (v2 : Int32) (v3 : Int32) (m : Mm) : Option Rs := ab_ex KT none s_X_spoil eV_X_spoil eI_X_spoil i_X_spoil h_X_spoil f 0 [some (.inr (.inr (1, some v0))), some (.inl v1), some (.inl v2), some (.inl v3)] [] m
set_option maxRecDepth 100000 in
set_option maxHeartbeats 4000000 in
theorem b_X_spoil_0_eq (f : Nat) (v0 : Nat) (v1 : Int32) (v2 : Int32) (v3 : Int32) (m : Mm) : b_X_spoil_0 (f + 1) v0 v1 v2 v3 m =
    (r_X_isUnderWay v0 v1 m).bind fun z1 =>
    if z1.1 = 0 then
      (ab_bo (0 : Int32)).bind fun y2 => some (.inl (some (.inl y2), z1.2))
    else
      if v2 < 0 then
        (ab_bo (0 : Int32)).bind fun y3 => some (.inl (some (.inl y3), z1.2))
      else
        (ab_ix v1 16).bind fun i4 =>
        (z1.2.2.2.1 9 (v0 + 2) i4).bind fun q5 =>
          if (z1.2.1 11 q5 0) ≤ v2 then
          (ab_bo (0 : Int32)).bind fun y6 => some (.inl (some (.inl y6), z1.2))
        else
          if v3 < (1 : Int32) then
            (ab_bo (0 : Int32)).bind fun y7 => some (.inl (some (.inl y7), z1.2))
          else
            if v3 ≤ (255 : Int32) then
              (ab_ix v1 16).bind fun i8 =>
              (z1.2.2.2.1 9 (v0 + 2) i8).bind fun q9 =>
                (ab_ix v2 40).bind fun i10 =>
              (ab_ix v2 40).bind fun i11 =>
              ab_let (ab_uI z1.2 13 (q9 + 1) i11 ((z1.2.1 13 (q9 + 1) i10) ^^^ v3)) fun m12 =>
              (ab_bo (1 : Int32)).bind fun y13 => some (.inl (some (.inl y13), m12))
            else
              (ab_bo (0 : Int32)).bind fun y14 => some (.inl (some (.inl y14), z1.2)) := rfl
noncomputable def r_X_spoil : Nat → Int32 → Int32 → Int32 → Mm → Option (Int32 × Mm) := ab_seal fun v0 v1 v2 v3 m => ab_rI (b_X_spoil_0 50000 v0 v1 v2 v3 m)
theorem r_X_spoil_eq (v0 : Nat) (v1 : Int32) (v2 : Int32) (v3 : Int32) (m : Mm) : r_X_spoil v0 v1 v2 v3 m = ab_rI (b_X_spoil_0 50000 v0 v1 v2 v3 m) := by
  unfold r_X_spoil
  rw [ab_seal_eq]
noncomputable def c_X_spoil : List AV → Mm → Option (Int32 × Mm) := fun av m => match av with
  | [.inr (.inr (kv0, ov0)), .inl v1, .inl v2, .inl v3] => if kv0 = 1 then (ov0.bind fun v0 => r_X_spoil v0 v1 v2 v3 m) else none
  | _ => none
theorem c_X_spoil_inv {av : List AV} {m : Mm} {r : Int32 × Mm} (h : c_X_spoil av m = some r) : ∃ (v0 : Nat) (v1 : Int32) (v2 : Int32) (v3 : Int32), av = [.inr (.inr (1, some v0)), .inl v1, .inl v2, .inl v3] ∧ r_X_spoil v0 v1 v2 v3 m = some r := by
  unfold c_X_spoil at h
  split at h
  · rename_i kv0 ov0 v1 v2 v3
    by_cases hkv0 : kv0 = 1
    case neg => rw [if_neg hkv0] at h; cases h
    rw [if_pos hkv0] at h
    subst hkv0
    obtain ⟨v0, hev0, h⟩ := Option.bind_eq_some_iff.mp h
    subst hev0
    exact ⟨v0, v1, v2, v3, rfl, h⟩
  · cases h
def cs_X_spoil : List Nat := [2]
set_option maxRecDepth 100000 in
theorem E_X_spoil : ∀ (pc : Nat) (q : Ent), i_X_spoil pc = some q → ab_E KT CL ab_gW "StreamTransport" "spoil" (some .boolean) prog_1_method_11_code s_X_spoil 4 pc q.1 q.2.1 q.2.2.1 q.2.2.2.1 q.2.2.2.2 := fun pc q hq =>
  ab_Eb_ok lc_X lj_X fl_X (fpn_X "spoil") nw_X na_X nq_X (ab_tab_all (t := t_X_spoil) (chk := fun pc q => ab_Eb (some .boolean) prog_1_method_11_code s_X_spoil 4 LC_X LJ_X FL_X FPn_X NW_X NA_X NQ_X pc q.1 q.2.1 q.2.2.1 q.2.2.2.1 q.2.2.2.2) (by decide +kernel) hq)
set_option maxRecDepth 100000 in
theorem kp_X_spoil {av : List AV} {m : Mm} {r : Int32 × Mm} (h : c_X_spoil av m = some r) : ab_kp m r.2 := by
  obtain ⟨v0, v1, v2, v3, -, h⟩ := c_X_spoil_inv h
  rw [r_X_spoil_eq] at h
  have hV : ∀ a av m m', eV_X_spoil a av m = some m' → ab_kp m m' := ab_ev_all (P := fun _ m r => ab_kp m r) [] (fun q hq => by cases hq)
  have hI : ∀ a av m q, eI_X_spoil a av m = some q → ab_kp m q.2 := ab_ev_all (P := fun _ (m : Mm) (r : Int32 × Mm) => ab_kp m r.2) [(86, c_X_isUnderWay)] (List.forall_mem_cons.mpr ⟨fun av m r h => kp_X_isUnderWay h, fun q hq => by cases hq⟩)
  exact ab_kprel (ρ := .inl (some (.inl r.1), r.2)) (ab_tab_isn (t := t_X_spoil) (by decide +kernel)) hV hI (ab_rI_inv h)
set_option maxRecDepth 100000 in
theorem cl_X_spoil (l : Launch) : ∀ (pc : Nat) (q : Ent), i_X_spoil pc = some q → ab_inv q.1 = true → ab_CR l KT CL none ab_gW "StreamTransport" prog_1_method_11_code 4 1 21 eV_X_spoil eI_X_spoil pc q := by
  intro pc q hq hi
  have hm : pc ∈ cs_X_spoil := ab_tab_cs (t := t_X_spoil) (by decide +kernel) hq hi
  simp only [cs_X_spoil, List.mem_cons, List.not_mem_nil, or_false] at hm
  rcases hm with rfl
  · cases (Option.some.inj hq : ((.invokevirtual 130, 86, 2, 1, 0) : Ent) = q)
    exact ab_crV (C := "StreamTransport") (by decide +kernel) cw_X_isUnderWay (ab_gW_in 602 (by decide +kernel) rfl) is_X_isUnderWay sl_X_isUnderWay (by decide) (fun av m m' h => by cases h) (fun av m r h => cm_X_isUnderWay l h) KT_nd
theorem cw_X_spoil : ab_cw y_X_spoil prog_1_method_11_code 4 3 (some .boolean) := ⟨ab_gW_in 769 (by decide +kernel) rfl, ab_gW_in 61 (by decide +kernel) rfl, by decide +kernel, by decide +kernel, by decide +kernel⟩
theorem is_X_spoil : Cond.instanceMethod y_X_spoil ∈ ab_gW := ab_gW_in 767 (by decide +kernel) rfl
theorem sl_X_spoil : Cond.selects "StreamTransport" y_X_spoil y_X_spoil ∈ ab_gW := ab_gW_in 768 (by decide +kernel) rfl
set_option maxRecDepth 100000 in
theorem cm_X_spoil (l : Launch) {av : List AV} {m : Mm} {r : Int32 × Mm} (h0 : c_X_spoil av m = some r) : ∃ (k q : Nat) (av' : List AV) (ci : Nat) (fs : List (Nat × Nat × Nat × Nat)) (z : vw_C), av = .inr (.inr (k, some q)) :: av' ∧ av'.length = 3 ∧ k ≠ 0 ∧ KT[k]? = some (.inl (ci, fs)) ∧ CL[ci]? = some z ∧ z.1 = "StreamTransport" ∧ ab_nos av' ∧ ab_Met l KT CL y_X_spoil (Cond.code y_X_spoil prog_1_method_11_code 4 (some .boolean) :: ab_gW) 1 21 none av m (some (.inl r.1)) r.2 := by
  obtain ⟨v0, v1, v2, v3, hav, h⟩ := c_X_spoil_inv h0
  rw [r_X_spoil_eq] at h
  have hmo : ab_mo m r.2 := ab_kp_mo (kp_X_spoil h0)
  subst hav
  exact ⟨_, _, _, _, _, _, rfl, rfl, by decide, rfl, rfl, rfl, (by intro v hv q e; subst e; simp at hv), ab_met (by decide +kernel) KT_0 KT_nd KT_k3 E_X_spoil (cl_X_spoil l) hmo (Nat.le_of_ble_eq_true rfl) (ab_rI_inv h) (fun v hv => by cases hv; exact ⟨_, rfl⟩)⟩
/-! StreamTransport.raw(IJ)I -/
def y_X_raw : MethodName := ⟨"StreamTransport", "raw", "(IJ)I"⟩
def t_X_raw (pc : Nat) : Option Ent :=
  bif Nat.blt pc 33 then
    (bif Nat.blt pc 18 then
      (bif Nat.blt pc 8 then
        (bif Nat.blt pc 4 then
          (bif Nat.blt pc 1 then
            (bif Nat.beq pc 0 then some (.iload_n 1, 1, 0, 0, 0) else none)
          else
            bif Nat.beq pc 1 then some (.invokestatic 37, 85, 1, 1, 0) else none)
        else
          bif Nat.blt pc 7 then
            (bif Nat.beq pc 4 then some (.ifCond .eq (14), 18, 0, 0, 0) else none)
          else
            bif Nat.beq pc 7 then some (.aload_n 0, 0, 0, 0, 0) else none)
      else
        bif Nat.blt pc 12 then
          (bif Nat.blt pc 11 then
            (bif Nat.beq pc 8 then some (.getfield 152, 9, 5, 0, 0) else none)
          else
            bif Nat.beq pc 11 then some (.iload_n 1, 1, 0, 0, 0) else none)
        else
          bif Nat.blt pc 13 then
            (bif Nat.beq pc 12 then some (.iadd, 0, 0, 0, 0) else none)
          else
            bif Nat.blt pc 15 then
              (bif Nat.beq pc 13 then some (.bipush 37, 0, 0, 0, 37) else none)
            else
              bif Nat.beq pc 15 then some (.if_icmp .le (5), 20, 0, 0, 0) else none)
    else
      bif Nat.blt pc 23 then
        (bif Nat.blt pc 20 then
          (bif Nat.blt pc 19 then
            (bif Nat.beq pc 18 then some (.iconst (-1), 0, 0, 0, -1) else none)
          else
            bif Nat.beq pc 19 then some (.ireturn, 0, 0, 0, 0) else none)
        else
          bif Nat.blt pc 21 then
            (bif Nat.beq pc 20 then some (.iconst 0, 0, 0, 0, 0) else none)
          else
            bif Nat.beq pc 21 then some (.istore 4, 4, 0, 0, 0) else none)
      else
        bif Nat.blt pc 26 then
          (bif Nat.blt pc 25 then
            (bif Nat.beq pc 23 then some (.iload 4, 4, 0, 0, 0) else none)
          else
            bif Nat.beq pc 25 then some (.iload_n 1, 1, 0, 0, 0) else none)
        else
          bif Nat.blt pc 29 then
            (bif Nat.beq pc 26 then some (.if_icmp .ge (27), 53, 0, 0, 0) else none)
          else
            bif Nat.blt pc 30 then
              (bif Nat.beq pc 29 then some (.aload_n 0, 0, 0, 0, 0) else none)
            else
              bif Nat.beq pc 30 then some (.getfield 26, 9, 3, 1, 0) else none)
  else
    bif Nat.blt pc 50 then
      (bif Nat.blt pc 40 then
        (bif Nat.blt pc 37 then
          (bif Nat.blt pc 34 then
            (bif Nat.beq pc 33 then some (.aload_n 0, 0, 0, 0, 0) else none)
          else
            bif Nat.beq pc 34 then some (.getfield 152, 9, 5, 0, 0) else none)
        else
          bif Nat.blt pc 39 then
            (bif Nat.beq pc 37 then some (.iload 4, 4, 0, 0, 0) else none)
          else
            bif Nat.beq pc 39 then some (.iadd, 0, 0, 0, 0) else none)
      else
        bif Nat.blt pc 43 then
          (bif Nat.blt pc 41 then
            (bif Nat.beq pc 40 then some (.lload_n 2, 2, 0, 0, 0) else none)
          else
            bif Nat.beq pc 41 then some (.iload 4, 4, 0, 0, 0) else none)
        else
          bif Nat.blt pc 46 then
            (bif Nat.beq pc 43 then some (.invokestatic 155, 5, 2, 1, 0) else none)
          else
            bif Nat.blt pc 47 then
              (bif Nat.beq pc 46 then some (.iastore, 0, 0, 0, 0) else none)
            else
              bif Nat.beq pc 47 then some (.iinc 4 1, 4, 0, 0, 1) else none)
    else
      bif Nat.blt pc 59 then
        (bif Nat.blt pc 54 then
          (bif Nat.blt pc 53 then
            (bif Nat.beq pc 50 then some (.goto (-27), 23, 0, 0, 0) else none)
          else
            bif Nat.beq pc 53 then some (.aload_n 0, 0, 0, 0, 0) else none)
        else
          bif Nat.blt pc 55 then
            (bif Nat.beq pc 54 then some (.dup, 0, 0, 1, 0) else none)
          else
            bif Nat.blt pc 58 then
              (bif Nat.beq pc 55 then some (.getfield 152, 9, 5, 0, 0) else none)
            else
              bif Nat.beq pc 58 then some (.iload_n 1, 1, 0, 0, 0) else none)
      else
        bif Nat.blt pc 63 then
          (bif Nat.blt pc 60 then
            (bif Nat.beq pc 59 then some (.iadd, 0, 0, 0, 0) else none)
          else
            bif Nat.beq pc 60 then some (.putfield 152, 9, 5, 0, 0) else none)
        else
          bif Nat.blt pc 64 then
            (bif Nat.beq pc 63 then some (.aload_n 0, 0, 0, 0, 0) else none)
          else
            bif Nat.blt pc 67 then
              (bif Nat.beq pc 64 then some (.getfield 152, 9, 5, 0, 0) else none)
            else
              bif Nat.beq pc 67 then some (.ireturn, 0, 0, 0, 0) else none
def i_X_raw : Nat → Option Ent := ab_tab 68 t_X_raw
def h_X_raw (pc : Nat) : Nat × List Bool := bif Nat.beq pc 23 then (1, [true, true, true, false, true]) else (0, [])
def s_X_raw (pc : Nat) : List (Int32 × Nat) × Nat := ([], 0)
noncomputable def eV_X_raw : Nat → List AV → Mm → Option Mm := ab_ev []
noncomputable def eI_X_raw : Nat → List AV → Mm → Option (Int32 × Mm) := ab_ev [(85, c_X_isCallBytes), (5, c_X_byteOf)]
noncomputable def b_X_raw_0 (f : Nat) (v0 : Nat) (v1 : Int32) (v2 : Int64) (m : Mm) : Option Rs := ab_ex KT none s_X_raw eV_X_raw eI_X_raw i_X_raw h_X_raw f 0 [some (.inr (.inr (1, some v0))), some (.inl v1), some (.inr (.inl v2)), none, none] [] m
noncomputable def b_X_raw_23 (f : Nat) (v0 : Nat) (v1 : Int32) (v2 : Int64) (v4 : Int32) (m : Mm) : Option Rs := ab_ex KT none s_X_raw eV_X_raw eI_X_raw i_X_raw h_X_raw f 23 [some (.inr (.inr (1, some v0))), some (.inl v1), some (.inr (.inl v2)), none, some (.inl v4)] [] m
set_option maxRecDepth 100000 in
set_option maxHeartbeats 4000000 in
theorem b_X_raw_0_eq (f : Nat) (v0 : Nat) (v1 : Int32) (v2 : Int64) (m : Mm) : b_X_raw_0 (f + 1) v0 v1 v2 m =
    (r_X_isCallBytes v1 m).bind fun z1 =>
    if z1.1 = 0 then
      some (.inl (some (.inl (-1 : Int32)), z1.2))
    else
      if ((z1.2.1 6 v0 0) + v1) ≤ (37 : Int32) then
        b_X_raw_23 f v0 v1 v2 (0 : Int32) z1.2
      else
        some (.inl (some (.inl (-1 : Int32)), z1.2)) := rfl
set_option maxRecDepth 100000 in
set_option maxHeartbeats 4000000 in
theorem b_X_raw_23_eq (f : Nat) (v0 : Nat) (v1 : Int32) (v2 : Int64) (v4 : Int32) (m : Mm) : b_X_raw_23 (f + 1) v0 v1 v2 v4 m =
    if v1 ≤ v4 then
      ab_let (ab_uI m 6 v0 0 ((m.1 6 v0 0) + v1)) fun m1 =>
      some (.inl (some (.inl (m1.1 6 v0 0)), m1))
    else
      (r_X_byteOf v2 v4 m).bind fun z2 =>
      (ab_ix ((m.1 6 v0 0) + v4) 37).bind fun i3 =>
      ab_let (ab_uI z2.2 14 (v0 + 5) i3 z2.1) fun m4 =>
      ab_let (v4 + (1 : Int32)) fun x5 =>
      b_X_raw_23 f v0 v1 v2 x5 m4 := rfl
noncomputable def r_X_raw : Nat → Int32 → Int64 → Mm → Option (Int32 × Mm) := ab_seal fun v0 v1 v2 m => ab_rI (b_X_raw_0 50000 v0 v1 v2 m)
theorem r_X_raw_eq (v0 : Nat) (v1 : Int32) (v2 : Int64) (m : Mm) : r_X_raw v0 v1 v2 m = ab_rI (b_X_raw_0 50000 v0 v1 v2 m) := by
  unfold r_X_raw
  rw [ab_seal_eq]
noncomputable def c_X_raw : List AV → Mm → Option (Int32 × Mm) := fun av m => match av with
  | [.inr (.inr (kv0, ov0)), .inl v1, .inr (.inl v2)] => if kv0 = 1 then (ov0.bind fun v0 => r_X_raw v0 v1 v2 m) else none
  | _ => none
theorem c_X_raw_inv {av : List AV} {m : Mm} {r : Int32 × Mm} (h : c_X_raw av m = some r) : ∃ (v0 : Nat) (v1 : Int32) (v2 : Int64), av = [.inr (.inr (1, some v0)), .inl v1, .inr (.inl v2)] ∧ r_X_raw v0 v1 v2 m = some r := by
  unfold c_X_raw at h
  split at h
  · rename_i kv0 ov0 v1 v2
    by_cases hkv0 : kv0 = 1
    case neg => rw [if_neg hkv0] at h; cases h
    rw [if_pos hkv0] at h
    subst hkv0
    obtain ⟨v0, hev0, h⟩ := Option.bind_eq_some_iff.mp h
    subst hev0
    exact ⟨v0, v1, v2, rfl, h⟩
  · cases h
def cs_X_raw : List Nat := [1, 43]
set_option maxRecDepth 100000 in
theorem E_X_raw : ∀ (pc : Nat) (q : Ent), i_X_raw pc = some q → ab_E KT CL ab_gW "StreamTransport" "raw" (some .int) prog_1_method_12_code s_X_raw 5 pc q.1 q.2.1 q.2.2.1 q.2.2.2.1 q.2.2.2.2 := fun pc q hq =>
  ab_Eb_ok lc_X lj_X fl_X (fpn_X "raw") nw_X na_X nq_X (ab_tab_all (t := t_X_raw) (chk := fun pc q => ab_Eb (some .int) prog_1_method_12_code s_X_raw 5 LC_X LJ_X FL_X FPn_X NW_X NA_X NQ_X pc q.1 q.2.1 q.2.2.1 q.2.2.2.1 q.2.2.2.2) (by decide +kernel) hq)
set_option maxRecDepth 100000 in
theorem kp_X_raw {av : List AV} {m : Mm} {r : Int32 × Mm} (h : c_X_raw av m = some r) : ab_kp m r.2 := by
  obtain ⟨v0, v1, v2, -, h⟩ := c_X_raw_inv h
  rw [r_X_raw_eq] at h
  have hV : ∀ a av m m', eV_X_raw a av m = some m' → ab_kp m m' := ab_ev_all (P := fun _ m r => ab_kp m r) [] (fun q hq => by cases hq)
  have hI : ∀ a av m q, eI_X_raw a av m = some q → ab_kp m q.2 := ab_ev_all (P := fun _ (m : Mm) (r : Int32 × Mm) => ab_kp m r.2) [(85, c_X_isCallBytes), (5, c_X_byteOf)] (List.forall_mem_cons.mpr ⟨fun av m r h => kp_X_isCallBytes h, List.forall_mem_cons.mpr ⟨fun av m r h => kp_X_byteOf h, fun q hq => by cases hq⟩⟩)
  exact ab_kprel (ρ := .inl (some (.inl r.1), r.2)) (ab_tab_isn (t := t_X_raw) (by decide +kernel)) hV hI (ab_rI_inv h)
set_option maxRecDepth 100000 in
theorem cl_X_raw (l : Launch) : ∀ (pc : Nat) (q : Ent), i_X_raw pc = some q → ab_inv q.1 = true → ab_CR l KT CL none ab_gW "StreamTransport" prog_1_method_12_code 5 1 22 eV_X_raw eI_X_raw pc q := by
  intro pc q hq hi
  have hm : pc ∈ cs_X_raw := ab_tab_cs (t := t_X_raw) (by decide +kernel) hq hi
  simp only [cs_X_raw, List.mem_cons, List.not_mem_nil, or_false] at hm
  rcases hm with rfl | rfl
  · cases (Option.some.inj hq : ((.invokestatic 37, 85, 1, 1, 0) : Ent) = q)
    exact ab_crS (by decide +kernel) cw_X_isCallBytes (ab_gW_in 774 (by decide +kernel) rfl) st_X_isCallBytes (by decide) (fun av m m' h => by cases h) (fun av m r h => cm_X_isCallBytes l h) KT_nd
  · cases (Option.some.inj hq : ((.invokestatic 155, 5, 2, 1, 0) : Ent) = q)
    exact ab_crS (by decide +kernel) cw_X_byteOf (ab_gW_in 777 (by decide +kernel) rfl) st_X_byteOf (by decide) (fun av m m' h => by cases h) (fun av m r h => cm_X_byteOf l h) KT_nd
theorem cw_X_raw : ab_cw y_X_raw prog_1_method_12_code 5 2 (some .int) := ⟨ab_gW_in 773 (by decide +kernel) rfl, ab_gW_in 61 (by decide +kernel) rfl, by decide +kernel, by decide +kernel, by decide +kernel⟩
theorem is_X_raw : Cond.instanceMethod y_X_raw ∈ ab_gW := ab_gW_in 771 (by decide +kernel) rfl
theorem sl_X_raw : Cond.selects "StreamTransport" y_X_raw y_X_raw ∈ ab_gW := ab_gW_in 772 (by decide +kernel) rfl
set_option maxRecDepth 100000 in
theorem cm_X_raw (l : Launch) {av : List AV} {m : Mm} {r : Int32 × Mm} (h0 : c_X_raw av m = some r) : ∃ (k q : Nat) (av' : List AV) (ci : Nat) (fs : List (Nat × Nat × Nat × Nat)) (z : vw_C), av = .inr (.inr (k, some q)) :: av' ∧ av'.length = 2 ∧ k ≠ 0 ∧ KT[k]? = some (.inl (ci, fs)) ∧ CL[ci]? = some z ∧ z.1 = "StreamTransport" ∧ ab_nos av' ∧ ab_Met l KT CL y_X_raw (Cond.code y_X_raw prog_1_method_12_code 5 (some .int) :: ab_gW) 1 22 none av m (some (.inl r.1)) r.2 := by
  obtain ⟨v0, v1, v2, hav, h⟩ := c_X_raw_inv h0
  rw [r_X_raw_eq] at h
  have hmo : ab_mo m r.2 := ab_kp_mo (kp_X_raw h0)
  subst hav
  exact ⟨_, _, _, _, _, _, rfl, rfl, by decide, rfl, rfl, rfl, (by intro v hv q e; subst e; simp at hv), ab_met (by decide +kernel) KT_0 KT_nd KT_k3 E_X_raw (cl_X_raw l) hmo (Nat.le_of_ble_eq_true rfl) (ab_rI_inv h) (fun v hv => by cases hv; exact ⟨_, rfl⟩)⟩
/-! StreamTransport.craft(II)I -/
def y_X_craft : MethodName := ⟨"StreamTransport", "craft", "(II)I"⟩
def t_X_craft (pc : Nat) : Option Ent :=
  bif Nat.blt pc 44 then
    (bif Nat.blt pc 24 then
      (bif Nat.blt pc 12 then
        (bif Nat.blt pc 7 then
          (bif Nat.blt pc 1 then
            (bif Nat.beq pc 0 then some (.iload_n 1, 1, 0, 0, 0) else none)
          else
            bif Nat.blt pc 4 then
              (bif Nat.beq pc 1 then some (.invokestatic 113, 83, 1, 1, 0) else none)
            else
              bif Nat.beq pc 4 then some (.ifCond .eq (14), 18, 0, 0, 0) else none)
        else
          bif Nat.blt pc 8 then
            (bif Nat.beq pc 7 then some (.iload_n 2, 2, 0, 0, 0) else none)
          else
            bif Nat.blt pc 11 then
              (bif Nat.beq pc 8 then some (.ifCond .lt (10), 18, 0, 0, 0) else none)
            else
              bif Nat.beq pc 11 then some (.iload_n 2, 2, 0, 0, 0) else none)
      else
        bif Nat.blt pc 19 then
          (bif Nat.blt pc 15 then
            (bif Nat.beq pc 12 then some (.sipush 9999, 0, 0, 0, 9999) else none)
          else
            bif Nat.blt pc 18 then
              (bif Nat.beq pc 15 then some (.if_icmp .le (5), 20, 0, 0, 0) else none)
            else
              bif Nat.beq pc 18 then some (.iconst (-1), 0, 0, 0, -1) else none)
        else
          bif Nat.blt pc 20 then
            (bif Nat.beq pc 19 then some (.ireturn, 0, 0, 0, 0) else none)
          else
            bif Nat.blt pc 21 then
              (bif Nat.beq pc 20 then some (.aload_n 0, 0, 0, 0, 0) else none)
            else
              bif Nat.beq pc 21 then some (.getfield 22, 9, 2, 1, 0) else none)
    else
      bif Nat.blt pc 34 then
        (bif Nat.blt pc 29 then
          (bif Nat.blt pc 25 then
            (bif Nat.beq pc 24 then some (.iload_n 1, 1, 0, 0, 0) else none)
          else
            bif Nat.blt pc 28 then
              (bif Nat.beq pc 25 then some (.ifCond .ne (7), 32, 0, 0, 0) else none)
            else
              bif Nat.beq pc 28 then some (.iconst 1, 0, 0, 0, 1) else none)
        else
          bif Nat.blt pc 32 then
            (bif Nat.beq pc 29 then some (.goto 4, 33, 0, 0, 0) else none)
          else
            bif Nat.blt pc 33 then
              (bif Nat.beq pc 32 then some (.iconst 0, 0, 0, 0, 0) else none)
            else
              bif Nat.beq pc 33 then some (.iload_n 2, 2, 0, 0, 0) else none)
      else
        bif Nat.blt pc 39 then
          (bif Nat.blt pc 37 then
            (bif Nat.beq pc 34 then some (.invokevirtual 159, 9, 3, 0, 0) else none)
          else
            bif Nat.blt pc 38 then
              (bif Nat.beq pc 37 then some (.iconst 0, 0, 0, 0, 0) else none)
            else
              bif Nat.beq pc 38 then some (.istore_n 3, 3, 0, 0, 0) else none)
        else
          bif Nat.blt pc 40 then
            (bif Nat.beq pc 39 then some (.iload_n 3, 3, 0, 0, 0) else none)
          else
            bif Nat.blt pc 41 then
              (bif Nat.beq pc 40 then some (.aload_n 0, 0, 0, 0, 0) else none)
            else
              bif Nat.beq pc 41 then some (.getfield 152, 9, 5, 0, 0) else none)
  else
    bif Nat.blt pc 68 then
      (bif Nat.blt pc 56 then
        (bif Nat.blt pc 51 then
          (bif Nat.blt pc 47 then
            (bif Nat.beq pc 44 then some (.if_icmp .ge (22), 66, 0, 0, 0) else none)
          else
            bif Nat.blt pc 48 then
              (bif Nat.beq pc 47 then some (.aload_n 0, 0, 0, 0, 0) else none)
            else
              bif Nat.beq pc 48 then some (.getfield 22, 9, 2, 1, 0) else none)
        else
          bif Nat.blt pc 52 then
            (bif Nat.beq pc 51 then some (.aload_n 0, 0, 0, 0, 0) else none)
          else
            bif Nat.blt pc 55 then
              (bif Nat.beq pc 52 then some (.getfield 26, 9, 3, 1, 0) else none)
            else
              bif Nat.beq pc 55 then some (.iload_n 3, 3, 0, 0, 0) else none)
      else
        bif Nat.blt pc 63 then
          (bif Nat.blt pc 57 then
            (bif Nat.beq pc 56 then some (.iaload, 0, 0, 0, 0) else none)
          else
            bif Nat.blt pc 60 then
              (bif Nat.beq pc 57 then some (.invokevirtual 163, 8, 2, 0, 0) else none)
            else
              bif Nat.beq pc 60 then some (.iinc 3 1, 3, 0, 0, 1) else none)
        else
          bif Nat.blt pc 66 then
            (bif Nat.beq pc 63 then some (.goto (-24), 39, 0, 0, 0) else none)
          else
            bif Nat.blt pc 67 then
              (bif Nat.beq pc 66 then some (.aload_n 0, 0, 0, 0, 0) else none)
            else
              bif Nat.beq pc 67 then some (.iconst 0, 0, 0, 0, 0) else none)
    else
      bif Nat.blt pc 80 then
        (bif Nat.blt pc 75 then
          (bif Nat.blt pc 71 then
            (bif Nat.beq pc 68 then some (.putfield 152, 9, 5, 0, 0) else none)
          else
            bif Nat.blt pc 72 then
              (bif Nat.beq pc 71 then some (.aload_n 0, 0, 0, 0, 0) else none)
            else
              bif Nat.beq pc 72 then some (.getfield 22, 9, 2, 1, 0) else none)
        else
          bif Nat.blt pc 76 then
            (bif Nat.beq pc 75 then some (.iload_n 2, 2, 0, 0, 0) else none)
          else
            bif Nat.blt pc 79 then
              (bif Nat.beq pc 76 then some (.invokevirtual 166, 12, 2, 0, 0) else none)
            else
              bif Nat.beq pc 79 then some (.aload_n 0, 0, 0, 0, 0) else none)
      else
        bif Nat.blt pc 85 then
          (bif Nat.blt pc 83 then
            (bif Nat.beq pc 80 then some (.getfield 11, 9, 0, 1, 0) else none)
          else
            bif Nat.blt pc 84 then
              (bif Nat.beq pc 83 then some (.iload_n 1, 1, 0, 0, 0) else none)
            else
              bif Nat.beq pc 84 then some (.aaload, 0, 0, 0, 0) else none)
        else
          bif Nat.blt pc 89 then
            (bif Nat.blt pc 86 then
              (bif Nat.beq pc 85 then some (.aload_n 0, 0, 0, 0, 0) else none)
            else
              bif Nat.beq pc 86 then some (.getfield 22, 9, 2, 1, 0) else none)
          else
            bif Nat.blt pc 92 then
              (bif Nat.beq pc 89 then some (.invokevirtual 140, 77, 2, 1, 0) else none)
            else
              bif Nat.beq pc 92 then some (.ireturn, 0, 0, 0, 0) else none
def i_X_craft : Nat → Option Ent := ab_tab 93 t_X_craft
def h_X_craft (pc : Nat) : Nat × List Bool := bif Nat.beq pc 33 then (1, [true, true, true, false]) else bif Nat.beq pc 39 then (1, [true, true, true, true]) else (0, [])
def s_X_craft (pc : Nat) : List (Int32 × Nat) × Nat := ([], 0)
noncomputable def eV_X_craft : Nat → List AV → Mm → Option Mm := ab_ev [(9, c_Row_begin), (8, c_Row_put), (12, c_Row_seal)]
noncomputable def eI_X_craft : Nat → List AV → Mm → Option (Int32 × Mm) := ab_ev [(83, c_X_isEnd), (77, c_End_receive)]
noncomputable def b_X_craft_0 (f : Nat) (v0 : Nat) (v1 : Int32) (v2 : Int32) (m : Mm) : Option Rs := ab_ex KT none s_X_craft eV_X_craft eI_X_craft i_X_craft h_X_craft f 0 [some (.inr (.inr (1, some v0))), some (.inl v1), some (.inl v2), none] [] m
noncomputable def b_X_craft_33 (f : Nat) (v0 : Nat) (v1 : Int32) (v2 : Int32) (u0 : Nat) (u1 : Int32) (m : Mm) : Option Rs := ab_ex KT none s_X_craft eV_X_craft eI_X_craft i_X_craft h_X_craft f 33 [some (.inr (.inr (1, some v0))), some (.inl v1), some (.inl v2), none] [.inl u1, .inr (.inr (4, some u0))] m
noncomputable def b_X_craft_39 (f : Nat) (v0 : Nat) (v1 : Int32) (v2 : Int32) (v3 : Int32) (m : Mm) : Option Rs := ab_ex KT none s_X_craft eV_X_craft eI_X_craft i_X_craft h_X_craft f 39 [some (.inr (.inr (1, some v0))), some (.inl v1), some (.inl v2), some (.inl v3)] [] m
set_option maxRecDepth 100000 in
set_option maxHeartbeats 4000000 in
theorem b_X_craft_0_eq (f : Nat) (v0 : Nat) (v1 : Int32) (v2 : Int32) (m : Mm) : b_X_craft_0 (f + 1) v0 v1 v2 m =
    (r_X_isEnd v1 m).bind fun z1 =>
    if z1.1 = 0 then
      some (.inl (some (.inl (-1 : Int32)), z1.2))
    else
      if v2 < 0 then
        some (.inl (some (.inl (-1 : Int32)), z1.2))
      else
        if v2 ≤ (9999 : Int32) then
          if v1 = 0 then
            b_X_craft_33 f v0 v1 v2 (v0 + 3) (1 : Int32) z1.2
          else
            b_X_craft_33 f v0 v1 v2 (v0 + 3) (0 : Int32) z1.2
        else
          some (.inl (some (.inl (-1 : Int32)), z1.2)) := rfl
set_option maxRecDepth 100000 in
set_option maxHeartbeats 4000000 in
theorem b_X_craft_33_eq (f : Nat) (v0 : Nat) (v1 : Int32) (v2 : Int32) (u0 : Nat) (u1 : Int32) (m : Mm) : b_X_craft_33 (f + 1) v0 v1 v2 u0 u1 m =
    (r_Row_begin u0 u1 v2 m).bind fun m1 =>
    b_X_craft_39 f v0 v1 v2 (0 : Int32) m1 := rfl
set_option maxRecDepth 100000 in
set_option maxHeartbeats 4000000 in
theorem b_X_craft_39_eq (f : Nat) (v0 : Nat) (v1 : Int32) (v2 : Int32) (v3 : Int32) (m : Mm) : b_X_craft_39 (f + 1) v0 v1 v2 v3 m =
    if (m.1 6 v0 0) ≤ v3 then
      ab_let (ab_uI m 6 v0 0 (0 : Int32)) fun m1 =>
      (r_Row_seal (v0 + 3) v2 m1).bind fun m2 =>
      (ab_ix v1 2).bind fun i3 =>
      (r_End_receive ((v0 + 1) + 5 + 30 * i3) (v0 + 3) m2).bind fun z4 =>
      some (.inl (some (.inl z4.1), z4.2))
    else
      (ab_ix v3 37).bind fun i5 =>
      (r_Row_put (v0 + 3) (m.1 14 (v0 + 5) i5) m).bind fun m6 =>
      ab_let (v3 + (1 : Int32)) fun x7 =>
      b_X_craft_39 f v0 v1 v2 x7 m6 := rfl
noncomputable def r_X_craft : Nat → Int32 → Int32 → Mm → Option (Int32 × Mm) := ab_seal fun v0 v1 v2 m => ab_rI (b_X_craft_0 50000 v0 v1 v2 m)
theorem r_X_craft_eq (v0 : Nat) (v1 : Int32) (v2 : Int32) (m : Mm) : r_X_craft v0 v1 v2 m = ab_rI (b_X_craft_0 50000 v0 v1 v2 m) := by
  unfold r_X_craft
  rw [ab_seal_eq]
noncomputable def c_X_craft : List AV → Mm → Option (Int32 × Mm) := fun av m => match av with
  | [.inr (.inr (kv0, ov0)), .inl v1, .inl v2] => if kv0 = 1 then (ov0.bind fun v0 => r_X_craft v0 v1 v2 m) else none
  | _ => none
theorem c_X_craft_inv {av : List AV} {m : Mm} {r : Int32 × Mm} (h : c_X_craft av m = some r) : ∃ (v0 : Nat) (v1 : Int32) (v2 : Int32), av = [.inr (.inr (1, some v0)), .inl v1, .inl v2] ∧ r_X_craft v0 v1 v2 m = some r := by
  unfold c_X_craft at h
  split at h
  · rename_i kv0 ov0 v1 v2
    by_cases hkv0 : kv0 = 1
    case neg => rw [if_neg hkv0] at h; cases h
    rw [if_pos hkv0] at h
    subst hkv0
    obtain ⟨v0, hev0, h⟩ := Option.bind_eq_some_iff.mp h
    subst hev0
    exact ⟨v0, v1, v2, rfl, h⟩
  · cases h
def cs_X_craft : List Nat := [1, 34, 57, 76, 89]
set_option maxRecDepth 100000 in
theorem E_X_craft : ∀ (pc : Nat) (q : Ent), i_X_craft pc = some q → ab_E KT CL ab_gW "StreamTransport" "craft" (some .int) prog_1_method_13_code s_X_craft 4 pc q.1 q.2.1 q.2.2.1 q.2.2.2.1 q.2.2.2.2 := fun pc q hq =>
  ab_Eb_ok lc_X lj_X fl_X (fpn_X "craft") nw_X na_X nq_X (ab_tab_all (t := t_X_craft) (chk := fun pc q => ab_Eb (some .int) prog_1_method_13_code s_X_craft 4 LC_X LJ_X FL_X FPn_X NW_X NA_X NQ_X pc q.1 q.2.1 q.2.2.1 q.2.2.2.1 q.2.2.2.2) (by decide +kernel) hq)
set_option maxRecDepth 100000 in
theorem kp_X_craft {av : List AV} {m : Mm} {r : Int32 × Mm} (h : c_X_craft av m = some r) : ab_kp m r.2 := by
  obtain ⟨v0, v1, v2, -, h⟩ := c_X_craft_inv h
  rw [r_X_craft_eq] at h
  have hV : ∀ a av m m', eV_X_craft a av m = some m' → ab_kp m m' := ab_ev_all (P := fun _ m r => ab_kp m r) [(9, c_Row_begin), (8, c_Row_put), (12, c_Row_seal)] (List.forall_mem_cons.mpr ⟨fun av m r h => kp_Row_begin h, List.forall_mem_cons.mpr ⟨fun av m r h => kp_Row_put h, List.forall_mem_cons.mpr ⟨fun av m r h => kp_Row_seal h, fun q hq => by cases hq⟩⟩⟩)
  have hI : ∀ a av m q, eI_X_craft a av m = some q → ab_kp m q.2 := ab_ev_all (P := fun _ (m : Mm) (r : Int32 × Mm) => ab_kp m r.2) [(83, c_X_isEnd), (77, c_End_receive)] (List.forall_mem_cons.mpr ⟨fun av m r h => kp_X_isEnd h, List.forall_mem_cons.mpr ⟨fun av m r h => kp_End_receive h, fun q hq => by cases hq⟩⟩)
  exact ab_kprel (ρ := .inl (some (.inl r.1), r.2)) (ab_tab_isn (t := t_X_craft) (by decide +kernel)) hV hI (ab_rI_inv h)
set_option maxRecDepth 100000 in
theorem cl_X_craft (l : Launch) : ∀ (pc : Nat) (q : Ent), i_X_craft pc = some q → ab_inv q.1 = true → ab_CR l KT CL none ab_gW "StreamTransport" prog_1_method_13_code 4 7 159 eV_X_craft eI_X_craft pc q := by
  intro pc q hq hi
  have hm : pc ∈ cs_X_craft := ab_tab_cs (t := t_X_craft) (by decide +kernel) hq hi
  simp only [cs_X_craft, List.mem_cons, List.not_mem_nil, or_false] at hm
  rcases hm with rfl | rfl | rfl | rfl | rfl
  · cases (Option.some.inj hq : ((.invokestatic 113, 83, 1, 1, 0) : Ent) = q)
    exact ab_crS (by decide +kernel) cw_X_isEnd (ab_gW_in 370 (by decide +kernel) rfl) st_X_isEnd (by decide) (fun av m m' h => by cases h) (fun av m r h => cm_X_isEnd l h) KT_nd
  · cases (Option.some.inj hq : ((.invokevirtual 159, 9, 3, 0, 0) : Ent) = q)
    exact ab_crV (C := "StreamTransport$Row") (by decide +kernel) cw_Row_begin (ab_gW_in 784 (by decide +kernel) rfl) is_Row_begin sl_Row_begin (by decide) (fun av m m' h => cm_Row_begin l h) (fun av m r h => by cases h) KT_nd
  · cases (Option.some.inj hq : ((.invokevirtual 163, 8, 2, 0, 0) : Ent) = q)
    exact ab_crV (C := "StreamTransport$Row") (by decide +kernel) cw_Row_put (ab_gW_in 785 (by decide +kernel) rfl) is_Row_put sl_Row_put (by decide) (fun av m m' h => cm_Row_put l h) (fun av m r h => by cases h) KT_nd
  · cases (Option.some.inj hq : ((.invokevirtual 166, 12, 2, 0, 0) : Ent) = q)
    exact ab_crV (C := "StreamTransport$Row") (by decide +kernel) cw_Row_seal (ab_gW_in 786 (by decide +kernel) rfl) is_Row_seal sl_Row_seal (by decide) (fun av m m' h => cm_Row_seal l h) (fun av m r h => by cases h) KT_nd
  · cases (Option.some.inj hq : ((.invokevirtual 140, 77, 2, 1, 0) : Ent) = q)
    exact ab_crV (C := "StreamTransport$End") (by decide +kernel) cw_End_receive (ab_gW_in 610 (by decide +kernel) rfl) is_End_receive sl_End_receive (by decide) (fun av m m' h => by cases h) (fun av m r h => cm_End_receive l h) KT_nd
theorem cw_X_craft : ab_cw y_X_craft prog_1_method_13_code 4 2 (some .int) := ⟨ab_gW_in 783 (by decide +kernel) rfl, ab_gW_in 61 (by decide +kernel) rfl, by decide +kernel, by decide +kernel, by decide +kernel⟩
theorem is_X_craft : Cond.instanceMethod y_X_craft ∈ ab_gW := ab_gW_in 781 (by decide +kernel) rfl
theorem sl_X_craft : Cond.selects "StreamTransport" y_X_craft y_X_craft ∈ ab_gW := ab_gW_in 782 (by decide +kernel) rfl
set_option maxRecDepth 100000 in
theorem cm_X_craft (l : Launch) {av : List AV} {m : Mm} {r : Int32 × Mm} (h0 : c_X_craft av m = some r) : ∃ (k q : Nat) (av' : List AV) (ci : Nat) (fs : List (Nat × Nat × Nat × Nat)) (z : vw_C), av = .inr (.inr (k, some q)) :: av' ∧ av'.length = 2 ∧ k ≠ 0 ∧ KT[k]? = some (.inl (ci, fs)) ∧ CL[ci]? = some z ∧ z.1 = "StreamTransport" ∧ ab_nos av' ∧ ab_Met l KT CL y_X_craft (Cond.code y_X_craft prog_1_method_13_code 4 (some .int) :: ab_gW) 7 159 none av m (some (.inl r.1)) r.2 := by
  obtain ⟨v0, v1, v2, hav, h⟩ := c_X_craft_inv h0
  rw [r_X_craft_eq] at h
  have hmo : ab_mo m r.2 := ab_kp_mo (kp_X_craft h0)
  subst hav
  exact ⟨_, _, _, _, _, _, rfl, rfl, by decide, rfl, rfl, rfl, (by intro v hv q e; subst e; simp at hv), ab_met (by decide +kernel) KT_0 KT_nd KT_k3 E_X_craft (cl_X_craft l) hmo (Nat.le_of_ble_eq_true rfl) (ab_rI_inv h) (fun v hv => by cases hv; exact ⟨_, rfl⟩)⟩
/-! StreamTransport.tick()I -/
def y_X_tick : MethodName := ⟨"StreamTransport", "tick", "()I"⟩
def t_X_tick (pc : Nat) : Option Ent :=
  bif Nat.blt pc 17 then
    (bif Nat.blt pc 7 then
      (bif Nat.blt pc 2 then
        (bif Nat.blt pc 1 then
          (bif Nat.beq pc 0 then some (.aload_n 0, 0, 0, 0, 0) else none)
        else
          bif Nat.beq pc 1 then some (.dup, 0, 0, 1, 0) else none)
      else
        bif Nat.blt pc 5 then
          (bif Nat.beq pc 2 then some (.getfield 123, 9, 6, 0, 0) else none)
        else
          bif Nat.blt pc 6 then
            (bif Nat.beq pc 5 then some (.iconst 1, 0, 0, 0, 1) else none)
          else
            bif Nat.beq pc 6 then some (.iadd, 0, 0, 0, 0) else none)
    else
      bif Nat.blt pc 12 then
        (bif Nat.blt pc 10 then
          (bif Nat.beq pc 7 then some (.putfield 123, 9, 6, 0, 0) else none)
        else
          bif Nat.blt pc 11 then
            (bif Nat.beq pc 10 then some (.iconst 0, 0, 0, 0, 0) else none)
          else
            bif Nat.beq pc 11 then some (.istore_n 1, 1, 0, 0, 0) else none)
      else
        bif Nat.blt pc 13 then
          (bif Nat.beq pc 12 then some (.iload_n 1, 1, 0, 0, 0) else none)
        else
          bif Nat.blt pc 14 then
            (bif Nat.beq pc 13 then some (.iconst 2, 0, 0, 0, 2) else none)
          else
            bif Nat.beq pc 14 then some (.if_icmp .ge (22), 36, 0, 0, 0) else none)
  else
    bif Nat.blt pc 27 then
      (bif Nat.blt pc 22 then
        (bif Nat.blt pc 18 then
          (bif Nat.beq pc 17 then some (.aload_n 0, 0, 0, 0, 0) else none)
        else
          bif Nat.blt pc 21 then
            (bif Nat.beq pc 18 then some (.getfield 11, 9, 0, 1, 0) else none)
          else
            bif Nat.beq pc 21 then some (.iload_n 1, 1, 0, 0, 0) else none)
      else
        bif Nat.blt pc 23 then
          (bif Nat.beq pc 22 then some (.aaload, 0, 0, 0, 0) else none)
        else
          bif Nat.blt pc 24 then
            (bif Nat.beq pc 23 then some (.aload_n 0, 0, 0, 0, 0) else none)
          else
            bif Nat.beq pc 24 then some (.getfield 123, 9, 6, 0, 0) else none)
    else
      bif Nat.blt pc 36 then
        (bif Nat.blt pc 30 then
          (bif Nat.beq pc 27 then some (.invokevirtual 169, 79, 2, 0, 0) else none)
        else
          bif Nat.blt pc 33 then
            (bif Nat.beq pc 30 then some (.iinc 1 1, 1, 0, 0, 1) else none)
          else
            bif Nat.beq pc 33 then some (.goto (-21), 12, 0, 0, 0) else none)
      else
        bif Nat.blt pc 37 then
          (bif Nat.beq pc 36 then some (.aload_n 0, 0, 0, 0, 0) else none)
        else
          bif Nat.blt pc 40 then
            (bif Nat.beq pc 37 then some (.getfield 123, 9, 6, 0, 0) else none)
          else
            bif Nat.beq pc 40 then some (.ireturn, 0, 0, 0, 0) else none
def i_X_tick : Nat → Option Ent := ab_tab 41 t_X_tick
def h_X_tick (pc : Nat) : Nat × List Bool := bif Nat.beq pc 12 then (1, [true, true]) else (0, [])
def s_X_tick (pc : Nat) : List (Int32 × Nat) × Nat := ([], 0)
noncomputable def eV_X_tick : Nat → List AV → Mm → Option Mm := ab_ev [(79, c_End_passTick)]
noncomputable def eI_X_tick : Nat → List AV → Mm → Option (Int32 × Mm) := ab_ev []
noncomputable def b_X_tick_0 (f : Nat) (v0 : Nat) (m : Mm) : Option Rs := ab_ex KT none s_X_tick eV_X_tick eI_X_tick i_X_tick h_X_tick f 0 [some (.inr (.inr (1, some v0))), none] [] m
noncomputable def b_X_tick_12 (f : Nat) (v0 : Nat) (v1 : Int32) (m : Mm) : Option Rs := ab_ex KT none s_X_tick eV_X_tick eI_X_tick i_X_tick h_X_tick f 12 [some (.inr (.inr (1, some v0))), some (.inl v1)] [] m
set_option maxRecDepth 100000 in
set_option maxHeartbeats 4000000 in
theorem b_X_tick_0_eq (f : Nat) (v0 : Nat) (m : Mm) : b_X_tick_0 (f + 1) v0 m =
    ab_let (ab_uI m 7 v0 0 ((m.1 7 v0 0) + (1 : Int32))) fun m1 =>
    b_X_tick_12 f v0 (0 : Int32) m1 := rfl
set_option maxRecDepth 100000 in
set_option maxHeartbeats 4000000 in
theorem b_X_tick_12_eq (f : Nat) (v0 : Nat) (v1 : Int32) (m : Mm) : b_X_tick_12 (f + 1) v0 v1 m =
    if (2 : Int32) ≤ v1 then
      some (.inl (some (.inl (m.1 7 v0 0)), m))
    else
      (ab_ix v1 2).bind fun i1 =>
      (r_End_passTick ((v0 + 1) + 5 + 30 * i1) (m.1 7 v0 0) m).bind fun m2 =>
      ab_let (v1 + (1 : Int32)) fun x3 =>
      b_X_tick_12 f v0 x3 m2 := rfl
noncomputable def r_X_tick : Nat → Mm → Option (Int32 × Mm) := ab_seal fun v0 m => ab_rI (b_X_tick_0 50000 v0 m)
theorem r_X_tick_eq (v0 : Nat) (m : Mm) : r_X_tick v0 m = ab_rI (b_X_tick_0 50000 v0 m) := by
  unfold r_X_tick
  rw [ab_seal_eq]
noncomputable def c_X_tick : List AV → Mm → Option (Int32 × Mm) := fun av m => match av with
  | [.inr (.inr (kv0, ov0))] => if kv0 = 1 then (ov0.bind fun v0 => r_X_tick v0 m) else none
  | _ => none
theorem c_X_tick_inv {av : List AV} {m : Mm} {r : Int32 × Mm} (h : c_X_tick av m = some r) : ∃ (v0 : Nat), av = [.inr (.inr (1, some v0))] ∧ r_X_tick v0 m = some r := by
  unfold c_X_tick at h
  split at h
  · rename_i kv0 ov0
    by_cases hkv0 : kv0 = 1
    case neg => rw [if_neg hkv0] at h; cases h
    rw [if_pos hkv0] at h
    subst hkv0
    obtain ⟨v0, hev0, h⟩ := Option.bind_eq_some_iff.mp h
    subst hev0
    exact ⟨v0, rfl, h⟩
  · cases h
def cs_X_tick : List Nat := [27]
set_option maxRecDepth 100000 in
theorem E_X_tick : ∀ (pc : Nat) (q : Ent), i_X_tick pc = some q → ab_E KT CL ab_gW "StreamTransport" "tick" (some .int) prog_1_method_14_code s_X_tick 2 pc q.1 q.2.1 q.2.2.1 q.2.2.2.1 q.2.2.2.2 := fun pc q hq =>
  ab_Eb_ok lc_X lj_X fl_X (fpn_X "tick") nw_X na_X nq_X (ab_tab_all (t := t_X_tick) (chk := fun pc q => ab_Eb (some .int) prog_1_method_14_code s_X_tick 2 LC_X LJ_X FL_X FPn_X NW_X NA_X NQ_X pc q.1 q.2.1 q.2.2.1 q.2.2.2.1 q.2.2.2.2) (by decide +kernel) hq)
set_option maxRecDepth 100000 in
theorem kp_X_tick {av : List AV} {m : Mm} {r : Int32 × Mm} (h : c_X_tick av m = some r) : ab_kp m r.2 := by
  obtain ⟨v0, -, h⟩ := c_X_tick_inv h
  rw [r_X_tick_eq] at h
  have hV : ∀ a av m m', eV_X_tick a av m = some m' → ab_kp m m' := ab_ev_all (P := fun _ m r => ab_kp m r) [(79, c_End_passTick)] (List.forall_mem_cons.mpr ⟨fun av m r h => kp_End_passTick h, fun q hq => by cases hq⟩)
  have hI : ∀ a av m q, eI_X_tick a av m = some q → ab_kp m q.2 := ab_ev_all (P := fun _ (m : Mm) (r : Int32 × Mm) => ab_kp m r.2) [] (fun q hq => by cases hq)
  exact ab_kprel (ρ := .inl (some (.inl r.1), r.2)) (ab_tab_isn (t := t_X_tick) (by decide +kernel)) hV hI (ab_rI_inv h)
set_option maxRecDepth 100000 in
theorem cl_X_tick (l : Launch) : ∀ (pc : Nat) (q : Ent), i_X_tick pc = some q → ab_inv q.1 = true → ab_CR l KT CL none ab_gW "StreamTransport" prog_1_method_14_code 2 4 91 eV_X_tick eI_X_tick pc q := by
  intro pc q hq hi
  have hm : pc ∈ cs_X_tick := ab_tab_cs (t := t_X_tick) (by decide +kernel) hq hi
  simp only [cs_X_tick, List.mem_cons, List.not_mem_nil, or_false] at hm
  rcases hm with rfl
  · cases (Option.some.inj hq : ((.invokevirtual 169, 79, 2, 0, 0) : Ent) = q)
    exact ab_crV (C := "StreamTransport$End") (by decide +kernel) cw_End_passTick (ab_gW_in 791 (by decide +kernel) rfl) is_End_passTick sl_End_passTick (by decide) (fun av m m' h => cm_End_passTick l h) (fun av m r h => by cases h) KT_nd
theorem cw_X_tick : ab_cw y_X_tick prog_1_method_14_code 2 0 (some .int) := ⟨ab_gW_in 790 (by decide +kernel) rfl, ab_gW_in 61 (by decide +kernel) rfl, by decide +kernel, by decide +kernel, by decide +kernel⟩
theorem is_X_tick : Cond.instanceMethod y_X_tick ∈ ab_gW := ab_gW_in 788 (by decide +kernel) rfl
theorem sl_X_tick : Cond.selects "StreamTransport" y_X_tick y_X_tick ∈ ab_gW := ab_gW_in 789 (by decide +kernel) rfl
set_option maxRecDepth 100000 in
theorem cm_X_tick (l : Launch) {av : List AV} {m : Mm} {r : Int32 × Mm} (h0 : c_X_tick av m = some r) : ∃ (k q : Nat) (av' : List AV) (ci : Nat) (fs : List (Nat × Nat × Nat × Nat)) (z : vw_C), av = .inr (.inr (k, some q)) :: av' ∧ av'.length = 0 ∧ k ≠ 0 ∧ KT[k]? = some (.inl (ci, fs)) ∧ CL[ci]? = some z ∧ z.1 = "StreamTransport" ∧ ab_nos av' ∧ ab_Met l KT CL y_X_tick (Cond.code y_X_tick prog_1_method_14_code 2 (some .int) :: ab_gW) 4 91 none av m (some (.inl r.1)) r.2 := by
  obtain ⟨v0, hav, h⟩ := c_X_tick_inv h0
  rw [r_X_tick_eq] at h
  have hmo : ab_mo m r.2 := ab_kp_mo (kp_X_tick h0)
  subst hav
  exact ⟨_, _, _, _, _, _, rfl, rfl, by decide, rfl, rfl, rfl, (by intro v hv q e; subst e; simp at hv), ab_met (by decide +kernel) KT_0 KT_nd KT_k3 E_X_tick (cl_X_tick l) hmo (Nat.le_of_ble_eq_true rfl) (ab_rI_inv h) (fun v hv => by cases hv; exact ⟨_, rfl⟩)⟩
/-! StreamTransport.packets()I -/
def y_X_packets : MethodName := ⟨"StreamTransport", "packets", "()I"⟩
def t_X_packets (pc : Nat) : Option Ent :=
  bif Nat.blt pc 1 then
    (bif Nat.beq pc 0 then some (.aload_n 0, 0, 0, 0, 0) else none)
  else
    bif Nat.blt pc 4 then
      (bif Nat.beq pc 1 then some (.getfield 120, 9, 4, 0, 0) else none)
    else
      bif Nat.beq pc 4 then some (.ireturn, 0, 0, 0, 0) else none
def i_X_packets : Nat → Option Ent := ab_tab 5 t_X_packets
def h_X_packets (pc : Nat) : Nat × List Bool := (0, [])
def s_X_packets (pc : Nat) : List (Int32 × Nat) × Nat := ([], 0)
noncomputable def eV_X_packets : Nat → List AV → Mm → Option Mm := ab_ev []
noncomputable def eI_X_packets : Nat → List AV → Mm → Option (Int32 × Mm) := ab_ev []
noncomputable def b_X_packets_0 (f : Nat) (v0 : Nat) (m : Mm) : Option Rs := ab_ex KT none s_X_packets eV_X_packets eI_X_packets i_X_packets h_X_packets f 0 [some (.inr (.inr (1, some v0)))] [] m
set_option maxRecDepth 100000 in
set_option maxHeartbeats 4000000 in
theorem b_X_packets_0_eq (f : Nat) (v0 : Nat) (m : Mm) : b_X_packets_0 (f + 1) v0 m =
    some (.inl (some (.inl (m.1 5 v0 0)), m)) := rfl
noncomputable def r_X_packets : Nat → Mm → Option (Int32 × Mm) := ab_seal fun v0 m => ab_rI (b_X_packets_0 50000 v0 m)
theorem r_X_packets_eq (v0 : Nat) (m : Mm) : r_X_packets v0 m = ab_rI (b_X_packets_0 50000 v0 m) := by
  unfold r_X_packets
  rw [ab_seal_eq]
noncomputable def c_X_packets : List AV → Mm → Option (Int32 × Mm) := fun av m => match av with
  | [.inr (.inr (kv0, ov0))] => if kv0 = 1 then (ov0.bind fun v0 => r_X_packets v0 m) else none
  | _ => none
theorem c_X_packets_inv {av : List AV} {m : Mm} {r : Int32 × Mm} (h : c_X_packets av m = some r) : ∃ (v0 : Nat), av = [.inr (.inr (1, some v0))] ∧ r_X_packets v0 m = some r := by
  unfold c_X_packets at h
  split at h
  · rename_i kv0 ov0
    by_cases hkv0 : kv0 = 1
    case neg => rw [if_neg hkv0] at h; cases h
    rw [if_pos hkv0] at h
    subst hkv0
    obtain ⟨v0, hev0, h⟩ := Option.bind_eq_some_iff.mp h
    subst hev0
    exact ⟨v0, rfl, h⟩
  · cases h
def cs_X_packets : List Nat := []
set_option maxRecDepth 100000 in
theorem E_X_packets : ∀ (pc : Nat) (q : Ent), i_X_packets pc = some q → ab_E KT CL ab_gW "StreamTransport" "packets" (some .int) prog_1_method_15_code s_X_packets 1 pc q.1 q.2.1 q.2.2.1 q.2.2.2.1 q.2.2.2.2 := fun pc q hq =>
  ab_Eb_ok lc_X lj_X fl_X (fpn_X "packets") nw_X na_X nq_X (ab_tab_all (t := t_X_packets) (chk := fun pc q => ab_Eb (some .int) prog_1_method_15_code s_X_packets 1 LC_X LJ_X FL_X FPn_X NW_X NA_X NQ_X pc q.1 q.2.1 q.2.2.1 q.2.2.2.1 q.2.2.2.2) (by decide +kernel) hq)
set_option maxRecDepth 100000 in
theorem kp_X_packets {av : List AV} {m : Mm} {r : Int32 × Mm} (h : c_X_packets av m = some r) : ab_kp m r.2 := by
  obtain ⟨v0, -, h⟩ := c_X_packets_inv h
  rw [r_X_packets_eq] at h
  have hV : ∀ a av m m', eV_X_packets a av m = some m' → ab_kp m m' := ab_ev_all (P := fun _ m r => ab_kp m r) [] (fun q hq => by cases hq)
  have hI : ∀ a av m q, eI_X_packets a av m = some q → ab_kp m q.2 := ab_ev_all (P := fun _ (m : Mm) (r : Int32 × Mm) => ab_kp m r.2) [] (fun q hq => by cases hq)
  exact ab_kprel (ρ := .inl (some (.inl r.1), r.2)) (ab_tab_isn (t := t_X_packets) (by decide +kernel)) hV hI (ab_rI_inv h)
set_option maxRecDepth 100000 in
theorem cl_X_packets (l : Launch) : ∀ (pc : Nat) (q : Ent), i_X_packets pc = some q → ab_inv q.1 = true → ab_CR l KT CL none ab_gW "StreamTransport" prog_1_method_15_code 1 0 0 eV_X_packets eI_X_packets pc q := by
  intro pc q hq hi
  have hm : pc ∈ cs_X_packets := ab_tab_cs (t := t_X_packets) (by decide +kernel) hq hi
  cases hm
theorem cw_X_packets : ab_cw y_X_packets prog_1_method_15_code 1 0 (some .int) := ⟨ab_gW_in 803 (by decide +kernel) rfl, ab_gW_in 61 (by decide +kernel) rfl, by decide +kernel, by decide +kernel, by decide +kernel⟩
theorem is_X_packets : Cond.instanceMethod y_X_packets ∈ ab_gW := ab_gW_in 801 (by decide +kernel) rfl
theorem sl_X_packets : Cond.selects "StreamTransport" y_X_packets y_X_packets ∈ ab_gW := ab_gW_in 802 (by decide +kernel) rfl
set_option maxRecDepth 100000 in
theorem cm_X_packets (l : Launch) {av : List AV} {m : Mm} {r : Int32 × Mm} (h0 : c_X_packets av m = some r) : ∃ (k q : Nat) (av' : List AV) (ci : Nat) (fs : List (Nat × Nat × Nat × Nat)) (z : vw_C), av = .inr (.inr (k, some q)) :: av' ∧ av'.length = 0 ∧ k ≠ 0 ∧ KT[k]? = some (.inl (ci, fs)) ∧ CL[ci]? = some z ∧ z.1 = "StreamTransport" ∧ ab_nos av' ∧ ab_Met l KT CL y_X_packets (Cond.code y_X_packets prog_1_method_15_code 1 (some .int) :: ab_gW) 0 0 none av m (some (.inl r.1)) r.2 := by
  obtain ⟨v0, hav, h⟩ := c_X_packets_inv h0
  rw [r_X_packets_eq] at h
  have hmo : ab_mo m r.2 := ab_kp_mo (kp_X_packets h0)
  subst hav
  exact ⟨_, _, _, _, _, _, rfl, rfl, by decide, rfl, rfl, rfl, (by intro v hv q e; subst e; simp at hv), ab_met (by decide +kernel) KT_0 KT_nd KT_k3 E_X_packets (cl_X_packets l) hmo (Nat.le_of_ble_eq_true rfl) (ab_rI_inv h) (fun v hv => by cases hv; exact ⟨_, rfl⟩)⟩
/-! StreamTransport.packet(II)I -/
def y_X_packet : MethodName := ⟨"StreamTransport", "packet", "(II)I"⟩
def t_X_packet (pc : Nat) : Option Ent :=
  bif Nat.blt pc 36 then
    (bif Nat.blt pc 16 then
      (bif Nat.blt pc 9 then
        (bif Nat.blt pc 2 then
          (bif Nat.blt pc 1 then
            (bif Nat.beq pc 0 then some (.aload_n 0, 0, 0, 0, 0) else none)
          else
            bif Nat.beq pc 1 then some (.iload_n 1, 1, 0, 0, 0) else none)
        else
          bif Nat.blt pc 5 then
            (bif Nat.beq pc 2 then some (.invokevirtual 130, 86, 2, 1, 0) else none)
          else
            bif Nat.blt pc 8 then
              (bif Nat.beq pc 5 then some (.ifCond .ne (5), 10, 0, 0, 0) else none)
            else
              bif Nat.beq pc 8 then some (.iconst (-1), 0, 0, 0, -1) else none)
      else
        bif Nat.blt pc 11 then
          (bif Nat.blt pc 10 then
            (bif Nat.beq pc 9 then some (.ireturn, 0, 0, 0, 0) else none)
          else
            bif Nat.beq pc 10 then some (.iload_n 2, 2, 0, 0, 0) else none)
        else
          bif Nat.blt pc 12 then
            (bif Nat.beq pc 11 then some (.iconst (-1), 0, 0, 0, -1) else none)
          else
            bif Nat.blt pc 15 then
              (bif Nat.beq pc 12 then some (.if_icmp .ne (13), 25, 0, 0, 0) else none)
            else
              bif Nat.beq pc 15 then some (.aload_n 0, 0, 0, 0, 0) else none)
    else
      bif Nat.blt pc 25 then
        (bif Nat.blt pc 20 then
          (bif Nat.blt pc 19 then
            (bif Nat.beq pc 16 then some (.getfield 17, 9, 1, 1, 0) else none)
          else
            bif Nat.beq pc 19 then some (.iload_n 1, 1, 0, 0, 0) else none)
        else
          bif Nat.blt pc 21 then
            (bif Nat.beq pc 20 then some (.aaload, 0, 0, 0, 0) else none)
          else
            bif Nat.blt pc 24 then
              (bif Nat.beq pc 21 then some (.getfield 148, 7, 1, 0, 0) else none)
            else
              bif Nat.beq pc 24 then some (.ireturn, 0, 0, 0, 0) else none)
      else
        bif Nat.blt pc 31 then
          (bif Nat.blt pc 26 then
            (bif Nat.beq pc 25 then some (.iload_n 2, 2, 0, 0, 0) else none)
          else
            bif Nat.blt pc 28 then
              (bif Nat.beq pc 26 then some (.bipush (-2), 0, 0, 0, -2) else none)
            else
              bif Nat.beq pc 28 then some (.if_icmp .ne (13), 41, 0, 0, 0) else none)
        else
          bif Nat.blt pc 32 then
            (bif Nat.beq pc 31 then some (.aload_n 0, 0, 0, 0, 0) else none)
          else
            bif Nat.blt pc 35 then
              (bif Nat.beq pc 32 then some (.getfield 17, 9, 1, 1, 0) else none)
            else
              bif Nat.beq pc 35 then some (.iload_n 1, 1, 0, 0, 0) else none)
  else
    bif Nat.blt pc 55 then
      (bif Nat.blt pc 45 then
        (bif Nat.blt pc 40 then
          (bif Nat.blt pc 37 then
            (bif Nat.beq pc 36 then some (.aaload, 0, 0, 0, 0) else none)
          else
            bif Nat.beq pc 37 then some (.getfield 137, 7, 2, 0, 0) else none)
        else
          bif Nat.blt pc 41 then
            (bif Nat.beq pc 40 then some (.ireturn, 0, 0, 0, 0) else none)
          else
            bif Nat.blt pc 42 then
              (bif Nat.beq pc 41 then some (.iload_n 2, 2, 0, 0, 0) else none)
            else
              bif Nat.beq pc 42 then some (.ifCond .lt (30), 72, 0, 0, 0) else none)
      else
        bif Nat.blt pc 50 then
          (bif Nat.blt pc 46 then
            (bif Nat.beq pc 45 then some (.iload_n 2, 2, 0, 0, 0) else none)
          else
            bif Nat.blt pc 47 then
              (bif Nat.beq pc 46 then some (.aload_n 0, 0, 0, 0, 0) else none)
            else
              bif Nat.beq pc 47 then some (.getfield 17, 9, 1, 1, 0) else none)
        else
          bif Nat.blt pc 51 then
            (bif Nat.beq pc 50 then some (.iload_n 1, 1, 0, 0, 0) else none)
          else
            bif Nat.blt pc 52 then
              (bif Nat.beq pc 51 then some (.aaload, 0, 0, 0, 0) else none)
            else
              bif Nat.beq pc 52 then some (.getfield 148, 7, 1, 0, 0) else none)
    else
      bif Nat.blt pc 64 then
        (bif Nat.blt pc 59 then
          (bif Nat.blt pc 58 then
            (bif Nat.beq pc 55 then some (.if_icmp .ge (17), 72, 0, 0, 0) else none)
          else
            bif Nat.beq pc 58 then some (.aload_n 0, 0, 0, 0, 0) else none)
        else
          bif Nat.blt pc 62 then
            (bif Nat.beq pc 59 then some (.getfield 17, 9, 1, 1, 0) else none)
          else
            bif Nat.blt pc 63 then
              (bif Nat.beq pc 62 then some (.iload_n 1, 1, 0, 0, 0) else none)
            else
              bif Nat.beq pc 63 then some (.aaload, 0, 0, 0, 0) else none)
      else
        bif Nat.blt pc 69 then
          (bif Nat.blt pc 67 then
            (bif Nat.beq pc 64 then some (.getfield 149, 7, 0, 1, 0) else none)
          else
            bif Nat.blt pc 68 then
              (bif Nat.beq pc 67 then some (.iload_n 2, 2, 0, 0, 0) else none)
            else
              bif Nat.beq pc 68 then some (.iaload, 0, 0, 0, 0) else none)
        else
          bif Nat.blt pc 72 then
            (bif Nat.beq pc 69 then some (.goto 4, 73, 0, 0, 0) else none)
          else
            bif Nat.blt pc 73 then
              (bif Nat.beq pc 72 then some (.iconst (-1), 0, 0, 0, -1) else none)
            else
              bif Nat.beq pc 73 then some (.ireturn, 0, 0, 0, 0) else none
def i_X_packet : Nat → Option Ent := ab_tab 74 t_X_packet
def h_X_packet (pc : Nat) : Nat × List Bool := (0, [])
def s_X_packet (pc : Nat) : List (Int32 × Nat) × Nat := ([], 0)
noncomputable def eV_X_packet : Nat → List AV → Mm → Option Mm := ab_ev []
noncomputable def eI_X_packet : Nat → List AV → Mm → Option (Int32 × Mm) := ab_ev [(86, c_X_isUnderWay)]
noncomputable def b_X_packet_0 (f : Nat) (v0 : Nat) (v1 : Int32) (v2 : Int32) (m : Mm) : Option Rs := ab_ex KT none s_X_packet eV_X_packet eI_X_packet i_X_packet h_X_packet f 0 [some (.inr (.inr (1, some v0))), some (.inl v1), some (.inl v2)] [] m
set_option maxRecDepth 100000 in
set_option maxHeartbeats 4000000 in
theorem b_X_packet_0_eq (f : Nat) (v0 : Nat) (v1 : Int32) (v2 : Int32) (m : Mm) : b_X_packet_0 (f + 1) v0 v1 v2 m =
    (r_X_isUnderWay v0 v1 m).bind fun z1 =>
    if z1.1 = 0 then
      some (.inl (some (.inl (-1 : Int32)), z1.2))
    else
      if v2 = (-1 : Int32) then
        (ab_ix v1 16).bind fun i9 =>
        (z1.2.2.2.1 9 (v0 + 2) i9).bind fun q10 =>
          some (.inl (some (.inl (z1.2.1 11 q10 0)), z1.2))
      else
        if v2 = (-2 : Int32) then
          (ab_ix v1 16).bind fun i7 =>
          (z1.2.2.2.1 9 (v0 + 2) i7).bind fun q8 =>
            some (.inl (some (.inl (z1.2.1 12 q8 0)), z1.2))
        else
          if v2 < 0 then
            some (.inl (some (.inl (-1 : Int32)), z1.2))
          else
            (ab_ix v1 16).bind fun i2 =>
            (z1.2.2.2.1 9 (v0 + 2) i2).bind fun q3 =>
              if (z1.2.1 11 q3 0) ≤ v2 then
              some (.inl (some (.inl (-1 : Int32)), z1.2))
            else
              (ab_ix v1 16).bind fun i4 =>
              (z1.2.2.2.1 9 (v0 + 2) i4).bind fun q5 =>
                (ab_ix v2 40).bind fun i6 =>
              some (.inl (some (.inl (z1.2.1 13 (q5 + 1) i6)), z1.2)) := rfl
noncomputable def r_X_packet : Nat → Int32 → Int32 → Mm → Option (Int32 × Mm) := ab_seal fun v0 v1 v2 m => ab_rI (b_X_packet_0 50000 v0 v1 v2 m)
theorem r_X_packet_eq (v0 : Nat) (v1 : Int32) (v2 : Int32) (m : Mm) : r_X_packet v0 v1 v2 m = ab_rI (b_X_packet_0 50000 v0 v1 v2 m) := by
  unfold r_X_packet
  rw [ab_seal_eq]
noncomputable def c_X_packet : List AV → Mm → Option (Int32 × Mm) := fun av m => match av with
  | [.inr (.inr (kv0, ov0)), .inl v1, .inl v2] => if kv0 = 1 then (ov0.bind fun v0 => r_X_packet v0 v1 v2 m) else none
  | _ => none
theorem c_X_packet_inv {av : List AV} {m : Mm} {r : Int32 × Mm} (h : c_X_packet av m = some r) : ∃ (v0 : Nat) (v1 : Int32) (v2 : Int32), av = [.inr (.inr (1, some v0)), .inl v1, .inl v2] ∧ r_X_packet v0 v1 v2 m = some r := by
  unfold c_X_packet at h
  split at h
  · rename_i kv0 ov0 v1 v2
    by_cases hkv0 : kv0 = 1
    case neg => rw [if_neg hkv0] at h; cases h
    rw [if_pos hkv0] at h
    subst hkv0
    obtain ⟨v0, hev0, h⟩ := Option.bind_eq_some_iff.mp h
    subst hev0
    exact ⟨v0, v1, v2, rfl, h⟩
  · cases h
def cs_X_packet : List Nat := [2]
set_option maxRecDepth 100000 in
theorem E_X_packet : ∀ (pc : Nat) (q : Ent), i_X_packet pc = some q → ab_E KT CL ab_gW "StreamTransport" "packet" (some .int) prog_1_method_16_code s_X_packet 3 pc q.1 q.2.1 q.2.2.1 q.2.2.2.1 q.2.2.2.2 := fun pc q hq =>
  ab_Eb_ok lc_X lj_X fl_X (fpn_X "packet") nw_X na_X nq_X (ab_tab_all (t := t_X_packet) (chk := fun pc q => ab_Eb (some .int) prog_1_method_16_code s_X_packet 3 LC_X LJ_X FL_X FPn_X NW_X NA_X NQ_X pc q.1 q.2.1 q.2.2.1 q.2.2.2.1 q.2.2.2.2) (by decide +kernel) hq)
set_option maxRecDepth 100000 in
theorem kp_X_packet {av : List AV} {m : Mm} {r : Int32 × Mm} (h : c_X_packet av m = some r) : ab_kp m r.2 := by
  obtain ⟨v0, v1, v2, -, h⟩ := c_X_packet_inv h
  rw [r_X_packet_eq] at h
  have hV : ∀ a av m m', eV_X_packet a av m = some m' → ab_kp m m' := ab_ev_all (P := fun _ m r => ab_kp m r) [] (fun q hq => by cases hq)
  have hI : ∀ a av m q, eI_X_packet a av m = some q → ab_kp m q.2 := ab_ev_all (P := fun _ (m : Mm) (r : Int32 × Mm) => ab_kp m r.2) [(86, c_X_isUnderWay)] (List.forall_mem_cons.mpr ⟨fun av m r h => kp_X_isUnderWay h, fun q hq => by cases hq⟩)
  exact ab_kprel (ρ := .inl (some (.inl r.1), r.2)) (ab_tab_isn (t := t_X_packet) (by decide +kernel)) hV hI (ab_rI_inv h)
set_option maxRecDepth 100000 in
theorem cl_X_packet (l : Launch) : ∀ (pc : Nat) (q : Ent), i_X_packet pc = some q → ab_inv q.1 = true → ab_CR l KT CL none ab_gW "StreamTransport" prog_1_method_16_code 3 1 21 eV_X_packet eI_X_packet pc q := by
  intro pc q hq hi
  have hm : pc ∈ cs_X_packet := ab_tab_cs (t := t_X_packet) (by decide +kernel) hq hi
  simp only [cs_X_packet, List.mem_cons, List.not_mem_nil, or_false] at hm
  rcases hm with rfl
  · cases (Option.some.inj hq : ((.invokevirtual 130, 86, 2, 1, 0) : Ent) = q)
    exact ab_crV (C := "StreamTransport") (by decide +kernel) cw_X_isUnderWay (ab_gW_in 602 (by decide +kernel) rfl) is_X_isUnderWay sl_X_isUnderWay (by decide) (fun av m m' h => by cases h) (fun av m r h => cm_X_isUnderWay l h) KT_nd
theorem cw_X_packet : ab_cw y_X_packet prog_1_method_16_code 3 2 (some .int) := ⟨ab_gW_in 807 (by decide +kernel) rfl, ab_gW_in 61 (by decide +kernel) rfl, by decide +kernel, by decide +kernel, by decide +kernel⟩
theorem is_X_packet : Cond.instanceMethod y_X_packet ∈ ab_gW := ab_gW_in 805 (by decide +kernel) rfl
theorem sl_X_packet : Cond.selects "StreamTransport" y_X_packet y_X_packet ∈ ab_gW := ab_gW_in 806 (by decide +kernel) rfl
set_option maxRecDepth 100000 in
theorem cm_X_packet (l : Launch) {av : List AV} {m : Mm} {r : Int32 × Mm} (h0 : c_X_packet av m = some r) : ∃ (k q : Nat) (av' : List AV) (ci : Nat) (fs : List (Nat × Nat × Nat × Nat)) (z : vw_C), av = .inr (.inr (k, some q)) :: av' ∧ av'.length = 2 ∧ k ≠ 0 ∧ KT[k]? = some (.inl (ci, fs)) ∧ CL[ci]? = some z ∧ z.1 = "StreamTransport" ∧ ab_nos av' ∧ ab_Met l KT CL y_X_packet (Cond.code y_X_packet prog_1_method_16_code 3 (some .int) :: ab_gW) 1 21 none av m (some (.inl r.1)) r.2 := by
  obtain ⟨v0, v1, v2, hav, h⟩ := c_X_packet_inv h0
  rw [r_X_packet_eq] at h
  have hmo : ab_mo m r.2 := ab_kp_mo (kp_X_packet h0)
  subst hav
  exact ⟨_, _, _, _, _, _, rfl, rfl, by decide, rfl, rfl, rfl, (by intro v hv q e; subst e; simp at hv), ab_met (by decide +kernel) KT_0 KT_nd KT_k3 E_X_packet (cl_X_packet l) hmo (Nat.le_of_ble_eq_true rfl) (ab_rI_inv h) (fun v hv => by cases hv; exact ⟨_, rfl⟩)⟩
/-! StreamTransport.closed(I)I -/
def y_X_closed : MethodName := ⟨"StreamTransport", "closed", "(I)I"⟩
def t_X_closed (pc : Nat) : Option Ent :=
  bif Nat.blt pc 11 then
    (bif Nat.blt pc 4 then
      (bif Nat.blt pc 1 then
        (bif Nat.beq pc 0 then some (.iload_n 1, 1, 0, 0, 0) else none)
      else
        bif Nat.beq pc 1 then some (.invokestatic 113, 83, 1, 1, 0) else none)
    else
      bif Nat.blt pc 7 then
        (bif Nat.beq pc 4 then some (.ifCond .eq (15), 19, 0, 0, 0) else none)
      else
        bif Nat.blt pc 8 then
          (bif Nat.beq pc 7 then some (.aload_n 0, 0, 0, 0, 0) else none)
        else
          bif Nat.beq pc 8 then some (.getfield 11, 9, 0, 1, 0) else none)
  else
    bif Nat.blt pc 16 then
      (bif Nat.blt pc 12 then
        (bif Nat.beq pc 11 then some (.iload_n 1, 1, 0, 0, 0) else none)
      else
        bif Nat.blt pc 13 then
          (bif Nat.beq pc 12 then some (.aaload, 0, 0, 0, 0) else none)
        else
          bif Nat.beq pc 13 then some (.getfield 172, 0, 7, 0, 0) else none)
    else
      bif Nat.blt pc 19 then
        (bif Nat.beq pc 16 then some (.goto 4, 20, 0, 0, 0) else none)
      else
        bif Nat.blt pc 20 then
          (bif Nat.beq pc 19 then some (.iconst (-1), 0, 0, 0, -1) else none)
        else
          bif Nat.beq pc 20 then some (.ireturn, 0, 0, 0, 0) else none
def i_X_closed : Nat → Option Ent := ab_tab 21 t_X_closed
def h_X_closed (pc : Nat) : Nat × List Bool := (0, [])
def s_X_closed (pc : Nat) : List (Int32 × Nat) × Nat := ([], 0)
noncomputable def eV_X_closed : Nat → List AV → Mm → Option Mm := ab_ev []
noncomputable def eI_X_closed : Nat → List AV → Mm → Option (Int32 × Mm) := ab_ev [(83, c_X_isEnd)]
noncomputable def b_X_closed_0 (f : Nat) (v0 : Nat) (v1 : Int32) (m : Mm) : Option Rs := ab_ex KT none s_X_closed eV_X_closed eI_X_closed i_X_closed h_X_closed f 0 [some (.inr (.inr (1, some v0))), some (.inl v1)] [] m
set_option maxRecDepth 100000 in
set_option maxHeartbeats 4000000 in
theorem b_X_closed_0_eq (f : Nat) (v0 : Nat) (v1 : Int32) (m : Mm) : b_X_closed_0 (f + 1) v0 v1 m =
    (r_X_isEnd v1 m).bind fun z1 =>
    if z1.1 = 0 then
      some (.inl (some (.inl (-1 : Int32)), z1.2))
    else
      (ab_ix v1 2).bind fun i2 =>
      some (.inl (some (.inl (z1.2.1 22 ((v0 + 1) + 5 + 30 * i2) 0)), z1.2)) := rfl
noncomputable def r_X_closed : Nat → Int32 → Mm → Option (Int32 × Mm) := ab_seal fun v0 v1 m => ab_rI (b_X_closed_0 50000 v0 v1 m)
theorem r_X_closed_eq (v0 : Nat) (v1 : Int32) (m : Mm) : r_X_closed v0 v1 m = ab_rI (b_X_closed_0 50000 v0 v1 m) := by
  unfold r_X_closed
  rw [ab_seal_eq]
noncomputable def c_X_closed : List AV → Mm → Option (Int32 × Mm) := fun av m => match av with
  | [.inr (.inr (kv0, ov0)), .inl v1] => if kv0 = 1 then (ov0.bind fun v0 => r_X_closed v0 v1 m) else none
  | _ => none
theorem c_X_closed_inv {av : List AV} {m : Mm} {r : Int32 × Mm} (h : c_X_closed av m = some r) : ∃ (v0 : Nat) (v1 : Int32), av = [.inr (.inr (1, some v0)), .inl v1] ∧ r_X_closed v0 v1 m = some r := by
  unfold c_X_closed at h
  split at h
  · rename_i kv0 ov0 v1
    by_cases hkv0 : kv0 = 1
    case neg => rw [if_neg hkv0] at h; cases h
    rw [if_pos hkv0] at h
    subst hkv0
    obtain ⟨v0, hev0, h⟩ := Option.bind_eq_some_iff.mp h
    subst hev0
    exact ⟨v0, v1, rfl, h⟩
  · cases h
def cs_X_closed : List Nat := [1]
set_option maxRecDepth 100000 in
theorem E_X_closed : ∀ (pc : Nat) (q : Ent), i_X_closed pc = some q → ab_E KT CL ab_gW "StreamTransport" "closed" (some .int) prog_1_method_17_code s_X_closed 2 pc q.1 q.2.1 q.2.2.1 q.2.2.2.1 q.2.2.2.2 := fun pc q hq =>
  ab_Eb_ok lc_X lj_X fl_X (fpn_X "closed") nw_X na_X nq_X (ab_tab_all (t := t_X_closed) (chk := fun pc q => ab_Eb (some .int) prog_1_method_17_code s_X_closed 2 LC_X LJ_X FL_X FPn_X NW_X NA_X NQ_X pc q.1 q.2.1 q.2.2.1 q.2.2.2.1 q.2.2.2.2) (by decide +kernel) hq)
set_option maxRecDepth 100000 in
theorem kp_X_closed {av : List AV} {m : Mm} {r : Int32 × Mm} (h : c_X_closed av m = some r) : ab_kp m r.2 := by
  obtain ⟨v0, v1, -, h⟩ := c_X_closed_inv h
  rw [r_X_closed_eq] at h
  have hV : ∀ a av m m', eV_X_closed a av m = some m' → ab_kp m m' := ab_ev_all (P := fun _ m r => ab_kp m r) [] (fun q hq => by cases hq)
  have hI : ∀ a av m q, eI_X_closed a av m = some q → ab_kp m q.2 := ab_ev_all (P := fun _ (m : Mm) (r : Int32 × Mm) => ab_kp m r.2) [(83, c_X_isEnd)] (List.forall_mem_cons.mpr ⟨fun av m r h => kp_X_isEnd h, fun q hq => by cases hq⟩)
  exact ab_kprel (ρ := .inl (some (.inl r.1), r.2)) (ab_tab_isn (t := t_X_closed) (by decide +kernel)) hV hI (ab_rI_inv h)
set_option maxRecDepth 100000 in
theorem cl_X_closed (l : Launch) : ∀ (pc : Nat) (q : Ent), i_X_closed pc = some q → ab_inv q.1 = true → ab_CR l KT CL none ab_gW "StreamTransport" prog_1_method_17_code 2 1 20 eV_X_closed eI_X_closed pc q := by
  intro pc q hq hi
  have hm : pc ∈ cs_X_closed := ab_tab_cs (t := t_X_closed) (by decide +kernel) hq hi
  simp only [cs_X_closed, List.mem_cons, List.not_mem_nil, or_false] at hm
  rcases hm with rfl
  · cases (Option.some.inj hq : ((.invokestatic 113, 83, 1, 1, 0) : Ent) = q)
    exact ab_crS (by decide +kernel) cw_X_isEnd (ab_gW_in 370 (by decide +kernel) rfl) st_X_isEnd (by decide) (fun av m m' h => by cases h) (fun av m r h => cm_X_isEnd l h) KT_nd
theorem cw_X_closed : ab_cw y_X_closed prog_1_method_17_code 2 1 (some .int) := ⟨ab_gW_in 811 (by decide +kernel) rfl, ab_gW_in 61 (by decide +kernel) rfl, by decide +kernel, by decide +kernel, by decide +kernel⟩
theorem is_X_closed : Cond.instanceMethod y_X_closed ∈ ab_gW := ab_gW_in 809 (by decide +kernel) rfl
theorem sl_X_closed : Cond.selects "StreamTransport" y_X_closed y_X_closed ∈ ab_gW := ab_gW_in 810 (by decide +kernel) rfl
set_option maxRecDepth 100000 in
theorem cm_X_closed (l : Launch) {av : List AV} {m : Mm} {r : Int32 × Mm} (h0 : c_X_closed av m = some r) : ∃ (k q : Nat) (av' : List AV) (ci : Nat) (fs : List (Nat × Nat × Nat × Nat)) (z : vw_C), av = .inr (.inr (k, some q)) :: av' ∧ av'.length = 1 ∧ k ≠ 0 ∧ KT[k]? = some (.inl (ci, fs)) ∧ CL[ci]? = some z ∧ z.1 = "StreamTransport" ∧ ab_nos av' ∧ ab_Met l KT CL y_X_closed (Cond.code y_X_closed prog_1_method_17_code 2 (some .int) :: ab_gW) 1 20 none av m (some (.inl r.1)) r.2 := by
  obtain ⟨v0, v1, hav, h⟩ := c_X_closed_inv h0
  rw [r_X_closed_eq] at h
  have hmo : ab_mo m r.2 := ab_kp_mo (kp_X_closed h0)
  subst hav
  exact ⟨_, _, _, _, _, _, rfl, rfl, by decide, rfl, rfl, rfl, (by intro v hv q e; subst e; simp at hv), ab_met (by decide +kernel) KT_0 KT_nd KT_k3 E_X_closed (cl_X_closed l) hmo (Nat.le_of_ble_eq_true rfl) (ab_rI_inv h) (fun v hv => by cases hv; exact ⟨_, rfl⟩)⟩
/-! StreamTransport.about(II)I -/
def y_X_about : MethodName := ⟨"StreamTransport", "about", "(II)I"⟩
def t_X_about (pc : Nat) : Option Ent :=
  bif Nat.blt pc 65 then
    (bif Nat.blt pc 14 then
      (bif Nat.blt pc 8 then
        (bif Nat.blt pc 4 then
          (bif Nat.blt pc 1 then
            (bif Nat.beq pc 0 then some (.iload_n 1, 1, 0, 0, 0) else none)
          else
            bif Nat.beq pc 1 then some (.invokestatic 113, 83, 1, 1, 0) else none)
        else
          bif Nat.blt pc 7 then
            (bif Nat.beq pc 4 then some (.ifCond .ne (5), 9, 0, 0, 0) else none)
          else
            bif Nat.beq pc 7 then some (.iconst (-1), 0, 0, 0, -1) else none)
      else
        bif Nat.blt pc 10 then
          (bif Nat.blt pc 9 then
            (bif Nat.beq pc 8 then some (.ireturn, 0, 0, 0, 0) else none)
          else
            bif Nat.beq pc 9 then some (.aload_n 0, 0, 0, 0, 0) else none)
        else
          bif Nat.blt pc 13 then
            (bif Nat.beq pc 10 then some (.getfield 11, 9, 0, 1, 0) else none)
          else
            bif Nat.beq pc 13 then some (.iload_n 1, 1, 0, 0, 0) else none)
    else
      bif Nat.blt pc 56 then
        (bif Nat.blt pc 16 then
          (bif Nat.blt pc 15 then
            (bif Nat.beq pc 14 then some (.aaload, 0, 0, 0, 0) else none)
          else
            bif Nat.beq pc 15 then some (.astore_n 3, 3, 0, 0, 0) else none)
        else
          bif Nat.blt pc 17 then
            (bif Nat.beq pc 16 then some (.iload_n 2, 2, 0, 0, 0) else none)
          else
            bif Nat.beq pc 17 then some (.tableswitch (78) (0) (5) #[(39), (44), (49), (57), (65), (73)], 0, 0, 0, 0) else none)
      else
        bif Nat.blt pc 60 then
          (bif Nat.blt pc 57 then
            (bif Nat.beq pc 56 then some (.aload_n 3, 3, 0, 0, 0) else none)
          else
            bif Nat.beq pc 57 then some (.getfield 175, 0, 6, 0, 0) else none)
        else
          bif Nat.blt pc 61 then
            (bif Nat.beq pc 60 then some (.ireturn, 0, 0, 0, 0) else none)
          else
            bif Nat.blt pc 62 then
              (bif Nat.beq pc 61 then some (.aload_n 3, 3, 0, 0, 0) else none)
            else
              bif Nat.beq pc 62 then some (.invokevirtual 178, 78, 1, 1, 0) else none)
  else
    bif Nat.blt pc 82 then
      (bif Nat.blt pc 73 then
        (bif Nat.blt pc 67 then
          (bif Nat.blt pc 66 then
            (bif Nat.beq pc 65 then some (.ireturn, 0, 0, 0, 0) else none)
          else
            bif Nat.beq pc 66 then some (.aload_n 3, 3, 0, 0, 0) else none)
        else
          bif Nat.blt pc 70 then
            (bif Nat.beq pc 67 then some (.getfield 44, 0, 2, 1, 0) else none)
          else
            bif Nat.beq pc 70 then some (.getfield 181, 4, 1, 0, 0) else none)
      else
        bif Nat.blt pc 75 then
          (bif Nat.blt pc 74 then
            (bif Nat.beq pc 73 then some (.ireturn, 0, 0, 0, 0) else none)
          else
            bif Nat.beq pc 74 then some (.aload_n 3, 3, 0, 0, 0) else none)
        else
          bif Nat.blt pc 78 then
            (bif Nat.beq pc 75 then some (.getfield 81, 0, 1, 1, 0) else none)
          else
            bif Nat.blt pc 81 then
              (bif Nat.beq pc 78 then some (.getfield 184, 2, 3, 0, 0) else none)
            else
              bif Nat.beq pc 81 then some (.ireturn, 0, 0, 0, 0) else none)
    else
      bif Nat.blt pc 90 then
        (bif Nat.blt pc 86 then
          (bif Nat.blt pc 83 then
            (bif Nat.beq pc 82 then some (.aload_n 3, 3, 0, 0, 0) else none)
          else
            bif Nat.beq pc 83 then some (.getfield 187, 0, 3, 1, 0) else none)
        else
          bif Nat.blt pc 89 then
            (bif Nat.beq pc 86 then some (.getfield 191, 3, 1, 0, 0) else none)
          else
            bif Nat.beq pc 89 then some (.ireturn, 0, 0, 0, 0) else none)
      else
        bif Nat.blt pc 94 then
          (bif Nat.blt pc 91 then
            (bif Nat.beq pc 90 then some (.aload_n 3, 3, 0, 0, 0) else none)
          else
            bif Nat.beq pc 91 then some (.getfield 196, 0, 8, 0, 0) else none)
        else
          bif Nat.blt pc 95 then
            (bif Nat.beq pc 94 then some (.ireturn, 0, 0, 0, 0) else none)
          else
            bif Nat.blt pc 96 then
              (bif Nat.beq pc 95 then some (.iconst (-1), 0, 0, 0, -1) else none)
            else
              bif Nat.beq pc 96 then some (.ireturn, 0, 0, 0, 0) else none
def i_X_about : Nat → Option Ent := ab_tab 97 t_X_about
def h_X_about (pc : Nat) : Nat × List Bool := (0, [])
def s_X_about (pc : Nat) : List (Int32 × Nat) × Nat := bif Nat.beq pc 17 then ([(0, 56), (1, 61), (2, 66), (3, 74), (4, 82), (5, 90)], 95) else ([], 0)
noncomputable def eV_X_about : Nat → List AV → Mm → Option Mm := ab_ev []
noncomputable def eI_X_about : Nat → List AV → Mm → Option (Int32 × Mm) := ab_ev [(83, c_X_isEnd), (78, c_End_countOnWay)]
noncomputable def b_X_about_0 (f : Nat) (v0 : Nat) (v1 : Int32) (v2 : Int32) (m : Mm) : Option Rs := ab_ex KT none s_X_about eV_X_about eI_X_about i_X_about h_X_about f 0 [some (.inr (.inr (1, some v0))), some (.inl v1), some (.inl v2), none] [] m
set_option maxRecDepth 100000 in
set_option maxHeartbeats 4000000 in
theorem b_X_about_0_eq (f : Nat) (v0 : Nat) (v1 : Int32) (v2 : Int32) (m : Mm) : b_X_about_0 (f + 1) v0 v1 v2 m =
    (r_X_isEnd v1 m).bind fun z1 =>
    if z1.1 = 0 then
      some (.inl (some (.inl (-1 : Int32)), z1.2))
    else
      (ab_ix v1 2).bind fun i2 =>
      if v2 = (0 : Int32) then
        some (.inl (some (.inl (z1.2.1 21 ((v0 + 1) + 5 + 30 * i2) 0)), z1.2))
      else if v2 = (1 : Int32) then
        (r_End_countOnWay ((v0 + 1) + 5 + 30 * i2) z1.2).bind fun z3 =>
        some (.inl (some (.inl z3.1), z3.2))
      else if v2 = (2 : Int32) then
        some (.inl (some (.inl (z1.2.1 55 (((v0 + 1) + 5 + 30 * i2) + 16) 0)), z1.2))
      else if v2 = (3 : Int32) then
        some (.inl (some (.inl (z1.2.1 43 (((v0 + 1) + 5 + 30 * i2) + 6) 0)), z1.2))
      else if v2 = (4 : Int32) then
        some (.inl (some (.inl (z1.2.1 30 (((v0 + 1) + 5 + 30 * i2) + 1) 0)), z1.2))
      else if v2 = (5 : Int32) then
        some (.inl (some (.inl (z1.2.1 23 ((v0 + 1) + 5 + 30 * i2) 0)), z1.2))
      else 
        some (.inl (some (.inl (-1 : Int32)), z1.2)) := rfl
noncomputable def r_X_about : Nat → Int32 → Int32 → Mm → Option (Int32 × Mm) := ab_seal fun v0 v1 v2 m => ab_rI (b_X_about_0 50000 v0 v1 v2 m)
theorem r_X_about_eq (v0 : Nat) (v1 : Int32) (v2 : Int32) (m : Mm) : r_X_about v0 v1 v2 m = ab_rI (b_X_about_0 50000 v0 v1 v2 m) := by
  unfold r_X_about
  rw [ab_seal_eq]
noncomputable def c_X_about : List AV → Mm → Option (Int32 × Mm) := fun av m => match av with
  | [.inr (.inr (kv0, ov0)), .inl v1, .inl v2] => if kv0 = 1 then (ov0.bind fun v0 => r_X_about v0 v1 v2 m) else none
  | _ => none
theorem c_X_about_inv {av : List AV} {m : Mm} {r : Int32 × Mm} (h : c_X_about av m = some r) : ∃ (v0 : Nat) (v1 : Int32) (v2 : Int32), av = [.inr (.inr (1, some v0)), .inl v1, .inl v2] ∧ r_X_about v0 v1 v2 m = some r := by
  unfold c_X_about at h
  split at h
  · rename_i kv0 ov0 v1 v2
    by_cases hkv0 : kv0 = 1
    case neg => rw [if_neg hkv0] at h; cases h
    rw [if_pos hkv0] at h
    subst hkv0
    obtain ⟨v0, hev0, h⟩ := Option.bind_eq_some_iff.mp h
    subst hev0
    exact ⟨v0, v1, v2, rfl, h⟩
  · cases h
def cs_X_about : List Nat := [1, 62]
set_option maxRecDepth 100000 in
theorem E_X_about : ∀ (pc : Nat) (q : Ent), i_X_about pc = some q → ab_E KT CL ab_gW "StreamTransport" "about" (some .int) prog_1_method_18_code s_X_about 4 pc q.1 q.2.1 q.2.2.1 q.2.2.2.1 q.2.2.2.2 := fun pc q hq =>
  ab_Eb_ok lc_X lj_X fl_X (fpn_X "about") nw_X na_X nq_X (ab_tab_all (t := t_X_about) (chk := fun pc q => ab_Eb (some .int) prog_1_method_18_code s_X_about 4 LC_X LJ_X FL_X FPn_X NW_X NA_X NQ_X pc q.1 q.2.1 q.2.2.1 q.2.2.2.1 q.2.2.2.2) (by decide +kernel) hq)
set_option maxRecDepth 100000 in
theorem kp_X_about {av : List AV} {m : Mm} {r : Int32 × Mm} (h : c_X_about av m = some r) : ab_kp m r.2 := by
  obtain ⟨v0, v1, v2, -, h⟩ := c_X_about_inv h
  rw [r_X_about_eq] at h
  have hV : ∀ a av m m', eV_X_about a av m = some m' → ab_kp m m' := ab_ev_all (P := fun _ m r => ab_kp m r) [] (fun q hq => by cases hq)
  have hI : ∀ a av m q, eI_X_about a av m = some q → ab_kp m q.2 := ab_ev_all (P := fun _ (m : Mm) (r : Int32 × Mm) => ab_kp m r.2) [(83, c_X_isEnd), (78, c_End_countOnWay)] (List.forall_mem_cons.mpr ⟨fun av m r h => kp_X_isEnd h, List.forall_mem_cons.mpr ⟨fun av m r h => kp_End_countOnWay h, fun q hq => by cases hq⟩⟩)
  exact ab_kprel (ρ := .inl (some (.inl r.1), r.2)) (ab_tab_isn (t := t_X_about) (by decide +kernel)) hV hI (ab_rI_inv h)
set_option maxRecDepth 100000 in
theorem cl_X_about (l : Launch) : ∀ (pc : Nat) (q : Ent), i_X_about pc = some q → ab_inv q.1 = true → ab_CR l KT CL none ab_gW "StreamTransport" prog_1_method_18_code 4 3 64 eV_X_about eI_X_about pc q := by
  intro pc q hq hi
  have hm : pc ∈ cs_X_about := ab_tab_cs (t := t_X_about) (by decide +kernel) hq hi
  simp only [cs_X_about, List.mem_cons, List.not_mem_nil, or_false] at hm
  rcases hm with rfl | rfl
  · cases (Option.some.inj hq : ((.invokestatic 113, 83, 1, 1, 0) : Ent) = q)
    exact ab_crS (by decide +kernel) cw_X_isEnd (ab_gW_in 370 (by decide +kernel) rfl) st_X_isEnd (by decide) (fun av m m' h => by cases h) (fun av m r h => cm_X_isEnd l h) KT_nd
  · cases (Option.some.inj hq : ((.invokevirtual 178, 78, 1, 1, 0) : Ent) = q)
    exact ab_crV (C := "StreamTransport$End") (by decide +kernel) cw_End_countOnWay (ab_gW_in 816 (by decide +kernel) rfl) is_End_countOnWay sl_End_countOnWay (by decide) (fun av m m' h => by cases h) (fun av m r h => cm_End_countOnWay l h) KT_nd
theorem cw_X_about : ab_cw y_X_about prog_1_method_18_code 4 2 (some .int) := ⟨ab_gW_in 815 (by decide +kernel) rfl, ab_gW_in 61 (by decide +kernel) rfl, by decide +kernel, by decide +kernel, by decide +kernel⟩
theorem is_X_about : Cond.instanceMethod y_X_about ∈ ab_gW := ab_gW_in 813 (by decide +kernel) rfl
theorem sl_X_about : Cond.selects "StreamTransport" y_X_about y_X_about ∈ ab_gW := ab_gW_in 814 (by decide +kernel) rfl
set_option maxRecDepth 100000 in
theorem cm_X_about (l : Launch) {av : List AV} {m : Mm} {r : Int32 × Mm} (h0 : c_X_about av m = some r) : ∃ (k q : Nat) (av' : List AV) (ci : Nat) (fs : List (Nat × Nat × Nat × Nat)) (z : vw_C), av = .inr (.inr (k, some q)) :: av' ∧ av'.length = 2 ∧ k ≠ 0 ∧ KT[k]? = some (.inl (ci, fs)) ∧ CL[ci]? = some z ∧ z.1 = "StreamTransport" ∧ ab_nos av' ∧ ab_Met l KT CL y_X_about (Cond.code y_X_about prog_1_method_18_code 4 (some .int) :: ab_gW) 3 64 none av m (some (.inl r.1)) r.2 := by
  obtain ⟨v0, v1, v2, hav, h⟩ := c_X_about_inv h0
  rw [r_X_about_eq] at h
  have hmo : ab_mo m r.2 := ab_kp_mo (kp_X_about h0)
  subst hav
  exact ⟨_, _, _, _, _, _, rfl, rfl, by decide, rfl, rfl, rfl, (by intro v hv q e; subst e; simp at hv), ab_met (by decide +kernel) KT_0 KT_nd KT_k3 E_X_about (cl_X_about l) hmo (Nat.le_of_ble_eq_true rfl) (ab_rI_inv h) (fun v hv => by cases hv; exact ⟨_, rfl⟩)⟩
/-! StreamTransport.stream(III)I -/
def y_X_stream : MethodName := ⟨"StreamTransport", "stream", "(III)I"⟩
def t_X_stream (pc : Nat) : Option Ent :=
  bif Nat.blt pc 104 then
    (bif Nat.blt pc 27 then
      (bif Nat.blt pc 14 then
        (bif Nat.blt pc 8 then
          (bif Nat.blt pc 2 then
            (bif Nat.blt pc 1 then
              (bif Nat.beq pc 0 then some (.iload_n 1, 1, 0, 0, 0) else none)
            else
              bif Nat.beq pc 1 then some (.iload_n 2, 2, 0, 0, 0) else none)
          else
            bif Nat.blt pc 5 then
              (bif Nat.beq pc 2 then some (.invokestatic 33, 84, 2, 1, 0) else none)
            else
              bif Nat.beq pc 5 then some (.ifCond .ne (5), 10, 0, 0, 0) else none)
        else
          bif Nat.blt pc 10 then
            (bif Nat.blt pc 9 then
              (bif Nat.beq pc 8 then some (.iconst (-1), 0, 0, 0, -1) else none)
            else
              bif Nat.beq pc 9 then some (.ireturn, 0, 0, 0, 0) else none)
          else
            bif Nat.blt pc 11 then
              (bif Nat.beq pc 10 then some (.aload_n 0, 0, 0, 0, 0) else none)
            else
              bif Nat.beq pc 11 then some (.getfield 11, 9, 0, 1, 0) else none)
      else
        bif Nat.blt pc 22 then
          (bif Nat.blt pc 16 then
            (bif Nat.blt pc 15 then
              (bif Nat.beq pc 14 then some (.iload_n 1, 1, 0, 0, 0) else none)
            else
              bif Nat.beq pc 15 then some (.aaload, 0, 0, 0, 0) else none)
          else
            bif Nat.blt pc 19 then
              (bif Nat.beq pc 16 then some (.getfield 44, 0, 2, 1, 0) else none)
            else
              bif Nat.beq pc 19 then some (.getfield 48, 4, 0, 1, 0) else none)
        else
          bif Nat.blt pc 24 then
            (bif Nat.blt pc 23 then
              (bif Nat.beq pc 22 then some (.iload_n 2, 2, 0, 0, 0) else none)
            else
              bif Nat.beq pc 23 then some (.aaload, 0, 0, 0, 0) else none)
          else
            bif Nat.blt pc 26 then
              (bif Nat.beq pc 24 then some (.astore 4, 4, 0, 0, 0) else none)
            else
              bif Nat.beq pc 26 then some (.aload_n 0, 0, 0, 0, 0) else none)
    else
      bif Nat.blt pc 42 then
        (bif Nat.blt pc 35 then
          (bif Nat.blt pc 31 then
            (bif Nat.blt pc 30 then
              (bif Nat.beq pc 27 then some (.getfield 11, 9, 0, 1, 0) else none)
            else
              bif Nat.beq pc 30 then some (.iload_n 1, 1, 0, 0, 0) else none)
          else
            bif Nat.blt pc 32 then
              (bif Nat.beq pc 31 then some (.aaload, 0, 0, 0, 0) else none)
            else
              bif Nat.beq pc 32 then some (.getfield 81, 0, 1, 1, 0) else none)
        else
          bif Nat.blt pc 39 then
            (bif Nat.blt pc 38 then
              (bif Nat.beq pc 35 then some (.getfield 85, 2, 0, 1, 0) else none)
            else
              bif Nat.beq pc 38 then some (.iload_n 2, 2, 0, 0, 0) else none)
          else
            bif Nat.blt pc 40 then
              (bif Nat.beq pc 39 then some (.aaload, 0, 0, 0, 0) else none)
            else
              bif Nat.beq pc 40 then some (.astore 5, 5, 0, 0, 0) else none)
      else
        bif Nat.blt pc 97 then
          (bif Nat.blt pc 92 then
            (bif Nat.blt pc 43 then
              (bif Nat.beq pc 42 then some (.iload_n 3, 3, 0, 0, 0) else none)
            else
              bif Nat.beq pc 43 then some (.tableswitch (123) (0) (8) #[(49), (55), (61), (67), (73), (87), (93), (111), (117)], 0, 0, 0, 0) else none)
          else
            bif Nat.blt pc 94 then
              (bif Nat.beq pc 92 then some (.aload 4, 4, 0, 0, 0) else none)
            else
              bif Nat.beq pc 94 then some (.getfield 63, 5, 2, 0, 0) else none)
        else
          bif Nat.blt pc 100 then
            (bif Nat.blt pc 98 then
              (bif Nat.beq pc 97 then some (.ireturn, 0, 0, 0, 0) else none)
            else
              bif Nat.beq pc 98 then some (.aload 4, 4, 0, 0, 0) else none)
          else
            bif Nat.blt pc 103 then
              (bif Nat.beq pc 100 then some (.getfield 199, 5, 3, 0, 0) else none)
            else
              bif Nat.beq pc 103 then some (.ireturn, 0, 0, 0, 0) else none)
  else
    bif Nat.blt pc 136 then
      (bif Nat.blt pc 121 then
        (bif Nat.blt pc 112 then
          (bif Nat.blt pc 109 then
            (bif Nat.blt pc 106 then
              (bif Nat.beq pc 104 then some (.aload 4, 4, 0, 0, 0) else none)
            else
              bif Nat.beq pc 106 then some (.invokevirtual 202, 32, 1, 1, 0) else none)
          else
            bif Nat.blt pc 110 then
              (bif Nat.beq pc 109 then some (.ireturn, 0, 0, 0, 0) else none)
            else
              bif Nat.beq pc 110 then some (.aload 4, 4, 0, 0, 0) else none)
        else
          bif Nat.blt pc 116 then
            (bif Nat.blt pc 115 then
              (bif Nat.beq pc 112 then some (.getfield 205, 5, 4, 0, 0) else none)
            else
              bif Nat.beq pc 115 then some (.ireturn, 0, 0, 0, 0) else none)
          else
            bif Nat.blt pc 118 then
              (bif Nat.beq pc 116 then some (.aload 4, 4, 0, 0, 0) else none)
            else
              bif Nat.beq pc 118 then some (.invokevirtual 208, 37, 1, 1, 0) else none)
      else
        bif Nat.blt pc 129 then
          (bif Nat.blt pc 125 then
            (bif Nat.blt pc 124 then
              (bif Nat.beq pc 121 then some (.ifCond .eq (7), 128, 0, 0, 0) else none)
            else
              bif Nat.beq pc 124 then some (.iconst 1, 0, 0, 0, 1) else none)
          else
            bif Nat.blt pc 128 then
              (bif Nat.beq pc 125 then some (.goto 4, 129, 0, 0, 0) else none)
            else
              bif Nat.beq pc 128 then some (.iconst 0, 0, 0, 0, 0) else none)
        else
          bif Nat.blt pc 132 then
            (bif Nat.blt pc 130 then
              (bif Nat.beq pc 129 then some (.ireturn, 0, 0, 0, 0) else none)
            else
              bif Nat.beq pc 130 then some (.aload 5, 5, 0, 0, 0) else none)
          else
            bif Nat.blt pc 135 then
              (bif Nat.beq pc 132 then some (.getfield 93, 1, 1, 0, 0) else none)
            else
              bif Nat.beq pc 135 then some (.ireturn, 0, 0, 0, 0) else none)
    else
      bif Nat.blt pc 154 then
        (bif Nat.blt pc 145 then
          (bif Nat.blt pc 141 then
            (bif Nat.blt pc 138 then
              (bif Nat.beq pc 136 then some (.aload 5, 5, 0, 0, 0) else none)
            else
              bif Nat.beq pc 138 then some (.getfield 90, 1, 5, 0, 0) else none)
          else
            bif Nat.blt pc 144 then
              (bif Nat.beq pc 141 then some (.ifCond .eq (7), 148, 0, 0, 0) else none)
            else
              bif Nat.beq pc 144 then some (.iconst 0, 0, 0, 0, 0) else none)
        else
          bif Nat.blt pc 150 then
            (bif Nat.blt pc 148 then
              (bif Nat.beq pc 145 then some (.goto 8, 153, 0, 0, 0) else none)
            else
              bif Nat.beq pc 148 then some (.aload 5, 5, 0, 0, 0) else none)
          else
            bif Nat.blt pc 153 then
              (bif Nat.beq pc 150 then some (.invokevirtual 102, 48, 1, 1, 0) else none)
            else
              bif Nat.beq pc 153 then some (.ireturn, 0, 0, 0, 0) else none)
      else
        bif Nat.blt pc 162 then
          (bif Nat.blt pc 159 then
            (bif Nat.blt pc 156 then
              (bif Nat.beq pc 154 then some (.aload 5, 5, 0, 0, 0) else none)
            else
              bif Nat.beq pc 156 then some (.getfield 96, 1, 3, 0, 0) else none)
          else
            bif Nat.blt pc 160 then
              (bif Nat.beq pc 159 then some (.ireturn, 0, 0, 0, 0) else none)
            else
              bif Nat.beq pc 160 then some (.aload 5, 5, 0, 0, 0) else none)
        else
          bif Nat.blt pc 166 then
            (bif Nat.blt pc 165 then
              (bif Nat.beq pc 162 then some (.getfield 211, 1, 4, 0, 0) else none)
            else
              bif Nat.beq pc 165 then some (.ireturn, 0, 0, 0, 0) else none)
          else
            bif Nat.blt pc 167 then
              (bif Nat.beq pc 166 then some (.iconst (-1), 0, 0, 0, -1) else none)
            else
              bif Nat.beq pc 167 then some (.ireturn, 0, 0, 0, 0) else none
def i_X_stream : Nat → Option Ent := ab_tab 168 t_X_stream
def h_X_stream (pc : Nat) : Nat × List Bool := (0, [])
def s_X_stream (pc : Nat) : List (Int32 × Nat) × Nat := bif Nat.beq pc 43 then ([(0, 92), (1, 98), (2, 104), (3, 110), (4, 116), (5, 130), (6, 136), (7, 154), (8, 160)], 166) else ([], 0)
noncomputable def eV_X_stream : Nat → List AV → Mm → Option Mm := ab_ev []
noncomputable def eI_X_stream : Nat → List AV → Mm → Option (Int32 × Mm) := ab_ev [(84, c_X_isStream), (32, c_Out_countAcked), (37, c_Out_isDone), (48, c_Inc_ready)]
noncomputable def b_X_stream_0 (f : Nat) (v0 : Nat) (v1 : Int32) (v2 : Int32) (v3 : Int32) (m : Mm) : Option Rs := ab_ex KT none s_X_stream eV_X_stream eI_X_stream i_X_stream h_X_stream f 0 [some (.inr (.inr (1, some v0))), some (.inl v1), some (.inl v2), some (.inl v3), none, none] [] m
set_option maxRecDepth 100000 in
set_option maxHeartbeats 4000000 in
theorem b_X_stream_0_eq (f : Nat) (v0 : Nat) (v1 : Int32) (v2 : Int32) (v3 : Int32) (m : Mm) : b_X_stream_0 (f + 1) v0 v1 v2 v3 m =
    (r_X_isStream v1 v2 m).bind fun z1 =>
    if z1.1 = 0 then
      some (.inl (some (.inl (-1 : Int32)), z1.2))
    else
      (ab_ix v1 2).bind fun i2 =>
      (ab_ix v2 4).bind fun i3 =>
      (ab_ix v1 2).bind fun i4 =>
      (ab_ix v2 4).bind fun i5 =>
      if v3 = (0 : Int32) then
        some (.inl (some (.inl (z1.2.1 59 (((((v0 + 1) + 5 + 30 * i2) + 16) + 1) + 1 + 3 * i3) 0)), z1.2))
      else if v3 = (1 : Int32) then
        some (.inl (some (.inl (z1.2.1 60 (((((v0 + 1) + 5 + 30 * i2) + 16) + 1) + 1 + 3 * i3) 0)), z1.2))
      else if v3 = (2 : Int32) then
        (r_Out_countAcked (((((v0 + 1) + 5 + 30 * i2) + 16) + 1) + 1 + 3 * i3) z1.2).bind fun z6 =>
        some (.inl (some (.inl z6.1), z6.2))
      else if v3 = (3 : Int32) then
        some (.inl (some (.inl (z1.2.1 61 (((((v0 + 1) + 5 + 30 * i2) + 16) + 1) + 1 + 3 * i3) 0)), z1.2))
      else if v3 = (4 : Int32) then
        (r_Out_isDone (((((v0 + 1) + 5 + 30 * i2) + 16) + 1) + 1 + 3 * i3) z1.2).bind fun z7 =>
        if z7.1 = 0 then
          some (.inl (some (.inl (0 : Int32)), z7.2))
        else
          some (.inl (some (.inl (1 : Int32)), z7.2))
      else if v3 = (5 : Int32) then
        some (.inl (some (.inl (z1.2.1 47 (((((v0 + 1) + 5 + 30 * i4) + 6) + 1) + 1 + 2 * i5) 0)), z1.2))
      else if v3 = (6 : Int32) then
        if (z1.2.1 51 (((((v0 + 1) + 5 + 30 * i4) + 6) + 1) + 1 + 2 * i5) 0) = 0 then
          (r_Inc_ready (((((v0 + 1) + 5 + 30 * i4) + 6) + 1) + 1 + 2 * i5) z1.2).bind fun z8 =>
          some (.inl (some (.inl z8.1), z8.2))
        else
          some (.inl (some (.inl (0 : Int32)), z1.2))
      else if v3 = (7 : Int32) then
        some (.inl (some (.inl (z1.2.1 49 (((((v0 + 1) + 5 + 30 * i4) + 6) + 1) + 1 + 2 * i5) 0)), z1.2))
      else if v3 = (8 : Int32) then
        some (.inl (some (.inl (z1.2.1 50 (((((v0 + 1) + 5 + 30 * i4) + 6) + 1) + 1 + 2 * i5) 0)), z1.2))
      else 
        some (.inl (some (.inl (-1 : Int32)), z1.2)) := rfl
noncomputable def r_X_stream : Nat → Int32 → Int32 → Int32 → Mm → Option (Int32 × Mm) := ab_seal fun v0 v1 v2 v3 m => ab_rI (b_X_stream_0 50000 v0 v1 v2 v3 m)
theorem r_X_stream_eq (v0 : Nat) (v1 : Int32) (v2 : Int32) (v3 : Int32) (m : Mm) : r_X_stream v0 v1 v2 v3 m = ab_rI (b_X_stream_0 50000 v0 v1 v2 v3 m) := by
  unfold r_X_stream
  rw [ab_seal_eq]
noncomputable def c_X_stream : List AV → Mm → Option (Int32 × Mm) := fun av m => match av with
  | [.inr (.inr (kv0, ov0)), .inl v1, .inl v2, .inl v3] => if kv0 = 1 then (ov0.bind fun v0 => r_X_stream v0 v1 v2 v3 m) else none
  | _ => none
theorem c_X_stream_inv {av : List AV} {m : Mm} {r : Int32 × Mm} (h : c_X_stream av m = some r) : ∃ (v0 : Nat) (v1 : Int32) (v2 : Int32) (v3 : Int32), av = [.inr (.inr (1, some v0)), .inl v1, .inl v2, .inl v3] ∧ r_X_stream v0 v1 v2 v3 m = some r := by
  unfold c_X_stream at h
  split at h
  · rename_i kv0 ov0 v1 v2 v3
    by_cases hkv0 : kv0 = 1
    case neg => rw [if_neg hkv0] at h; cases h
    rw [if_pos hkv0] at h
    subst hkv0
    obtain ⟨v0, hev0, h⟩ := Option.bind_eq_some_iff.mp h
    subst hev0
    exact ⟨v0, v1, v2, v3, rfl, h⟩
  · cases h
def cs_X_stream : List Nat := [2, 106, 118, 150]
set_option maxRecDepth 100000 in
theorem E_X_stream : ∀ (pc : Nat) (q : Ent), i_X_stream pc = some q → ab_E KT CL ab_gW "StreamTransport" "stream" (some .int) prog_1_method_19_code s_X_stream 6 pc q.1 q.2.1 q.2.2.1 q.2.2.2.1 q.2.2.2.2 := fun pc q hq =>
  ab_Eb_ok lc_X lj_X fl_X (fpn_X "stream") nw_X na_X nq_X (ab_tab_all (t := t_X_stream) (chk := fun pc q => ab_Eb (some .int) prog_1_method_19_code s_X_stream 6 LC_X LJ_X FL_X FPn_X NW_X NA_X NQ_X pc q.1 q.2.1 q.2.2.1 q.2.2.2.1 q.2.2.2.2) (by decide +kernel) hq)
set_option maxRecDepth 100000 in
theorem kp_X_stream {av : List AV} {m : Mm} {r : Int32 × Mm} (h : c_X_stream av m = some r) : ab_kp m r.2 := by
  obtain ⟨v0, v1, v2, v3, -, h⟩ := c_X_stream_inv h
  rw [r_X_stream_eq] at h
  have hV : ∀ a av m m', eV_X_stream a av m = some m' → ab_kp m m' := ab_ev_all (P := fun _ m r => ab_kp m r) [] (fun q hq => by cases hq)
  have hI : ∀ a av m q, eI_X_stream a av m = some q → ab_kp m q.2 := ab_ev_all (P := fun _ (m : Mm) (r : Int32 × Mm) => ab_kp m r.2) [(84, c_X_isStream), (32, c_Out_countAcked), (37, c_Out_isDone), (48, c_Inc_ready)] (List.forall_mem_cons.mpr ⟨fun av m r h => kp_X_isStream h, List.forall_mem_cons.mpr ⟨fun av m r h => kp_Out_countAcked h, List.forall_mem_cons.mpr ⟨fun av m r h => kp_Out_isDone h, List.forall_mem_cons.mpr ⟨fun av m r h => kp_Inc_ready h, fun q hq => by cases hq⟩⟩⟩⟩)
  exact ab_kprel (ρ := .inl (some (.inl r.1), r.2)) (ab_tab_isn (t := t_X_stream) (by decide +kernel)) hV hI (ab_rI_inv h)
set_option maxRecDepth 100000 in
theorem cl_X_stream (l : Launch) : ∀ (pc : Nat) (q : Ent), i_X_stream pc = some q → ab_inv q.1 = true → ab_CR l KT CL none ab_gW "StreamTransport" prog_1_method_19_code 6 2 42 eV_X_stream eI_X_stream pc q := by
  intro pc q hq hi
  have hm : pc ∈ cs_X_stream := ab_tab_cs (t := t_X_stream) (by decide +kernel) hq hi
  simp only [cs_X_stream, List.mem_cons, List.not_mem_nil, or_false] at hm
  rcases hm with rfl | rfl | rfl | rfl
  · cases (Option.some.inj hq : ((.invokestatic 33, 84, 2, 1, 0) : Ent) = q)
    exact ab_crS (by decide +kernel) cw_X_isStream (ab_gW_in 367 (by decide +kernel) rfl) st_X_isStream (by decide) (fun av m m' h => by cases h) (fun av m r h => cm_X_isStream l h) KT_nd
  · cases (Option.some.inj hq : ((.invokevirtual 202, 32, 1, 1, 0) : Ent) = q)
    exact ab_crV (C := "StreamTransport$Outgoing") (by decide +kernel) cw_Out_countAcked (ab_gW_in 824 (by decide +kernel) rfl) is_Out_countAcked sl_Out_countAcked (by decide) (fun av m m' h => by cases h) (fun av m r h => cm_Out_countAcked l h) KT_nd
  · cases (Option.some.inj hq : ((.invokevirtual 208, 37, 1, 1, 0) : Ent) = q)
    exact ab_crV (C := "StreamTransport$Outgoing") (by decide +kernel) cw_Out_isDone (ab_gW_in 828 (by decide +kernel) rfl) is_Out_isDone sl_Out_isDone (by decide) (fun av m m' h => by cases h) (fun av m r h => cm_Out_isDone l h) KT_nd
  · cases (Option.some.inj hq : ((.invokevirtual 102, 48, 1, 1, 0) : Ent) = q)
    exact ab_crV (C := "StreamTransport$Incoming") (by decide +kernel) cw_Inc_ready (ab_gW_in 833 (by decide +kernel) rfl) is_Inc_ready sl_Inc_ready (by decide) (fun av m m' h => by cases h) (fun av m r h => cm_Inc_ready l h) KT_nd
theorem cw_X_stream : ab_cw y_X_stream prog_1_method_19_code 6 3 (some .int) := ⟨ab_gW_in 823 (by decide +kernel) rfl, ab_gW_in 61 (by decide +kernel) rfl, by decide +kernel, by decide +kernel, by decide +kernel⟩
theorem is_X_stream : Cond.instanceMethod y_X_stream ∈ ab_gW := ab_gW_in 821 (by decide +kernel) rfl
theorem sl_X_stream : Cond.selects "StreamTransport" y_X_stream y_X_stream ∈ ab_gW := ab_gW_in 822 (by decide +kernel) rfl
set_option maxRecDepth 100000 in
theorem cm_X_stream (l : Launch) {av : List AV} {m : Mm} {r : Int32 × Mm} (h0 : c_X_stream av m = some r) : ∃ (k q : Nat) (av' : List AV) (ci : Nat) (fs : List (Nat × Nat × Nat × Nat)) (z : vw_C), av = .inr (.inr (k, some q)) :: av' ∧ av'.length = 3 ∧ k ≠ 0 ∧ KT[k]? = some (.inl (ci, fs)) ∧ CL[ci]? = some z ∧ z.1 = "StreamTransport" ∧ ab_nos av' ∧ ab_Met l KT CL y_X_stream (Cond.code y_X_stream prog_1_method_19_code 6 (some .int) :: ab_gW) 2 42 none av m (some (.inl r.1)) r.2 := by
  obtain ⟨v0, v1, v2, v3, hav, h⟩ := c_X_stream_inv h0
  rw [r_X_stream_eq] at h
  have hmo : ab_mo m r.2 := ab_kp_mo (kp_X_stream h0)
  subst hav
  exact ⟨_, _, _, _, _, _, rfl, rfl, by decide, rfl, rfl, rfl, (by intro v hv q e; subst e; simp at hv), ab_met (by decide +kernel) KT_0 KT_nd KT_k3 E_X_stream (cl_X_stream l) hmo (Nat.le_of_ble_eq_true rfl) (ab_rI_inv h) (fun v hv => by cases hv; exact ⟨_, rfl⟩)⟩
end
