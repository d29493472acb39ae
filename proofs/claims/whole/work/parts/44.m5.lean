section
/-! StreamTransportModel.flies(I)Z -/
def y_M_flies : MethodName := ⟨"StreamTransportModel", "flies", "(I)Z"⟩
def t_M_flies (pc : Nat) : Option Ent :=
  bif Nat.blt pc 9 then
    (bif Nat.blt pc 4 then
      (bif Nat.blt pc 1 then
        (bif Nat.beq pc 0 then some (.iload_n 1, 1, 0, 0, 0) else none)
      else
        bif Nat.beq pc 1 then some (.ifCond .lt (15), 16, 0, 0, 0) else none)
    else
      bif Nat.blt pc 5 then
        (bif Nat.beq pc 4 then some (.iload_n 1, 1, 0, 0, 0) else none)
      else
        bif Nat.blt pc 6 then
          (bif Nat.beq pc 5 then some (.aload_n 0, 0, 0, 0, 0) else none)
        else
          bif Nat.beq pc 6 then some (.getfield 217, 10, 37, 0, 0) else none)
  else
    bif Nat.blt pc 13 then
      (bif Nat.blt pc 12 then
        (bif Nat.beq pc 9 then some (.if_icmp .ge (7), 16, 0, 0, 0) else none)
      else
        bif Nat.beq pc 12 then some (.iconst 1, 0, 0, 0, 1) else none)
    else
      bif Nat.blt pc 16 then
        (bif Nat.beq pc 13 then some (.goto 4, 17, 0, 0, 0) else none)
      else
        bif Nat.blt pc 17 then
          (bif Nat.beq pc 16 then some (.iconst 0, 0, 0, 0, 0) else none)
        else
          bif Nat.beq pc 17 then some (.ireturn, 0, 0, 1, 0) else none
def i_M_flies : Nat → Option Ent := ab_tab 18 t_M_flies
def h_M_flies (pc : Nat) : Nat × List Bool := (0, [])
def s_M_flies (pc : Nat) : List (Int32 × Nat) × Nat := ([], 0)
noncomputable def eV_M_flies : Nat → List AV → Mm → Option Mm := ab_ev []
noncomputable def eI_M_flies : Nat → List AV → Mm → Option (Int32 × Mm) := ab_ev []
noncomputable def b_M_flies_0 (f : Nat) (v0 : Nat) (v1 : Int32) (m : Mm) : Option Rs := ab_ex KT none s_M_flies eV_M_flies eI_M_flies i_M_flies h_M_flies f 0 [some (.inr (.inr (28, some v0))), some (.inl v1)] [] m
set_option maxRecDepth 100000 in
set_option maxHeartbeats 4000000 in
theorem b_M_flies_0_eq (f : Nat) (v0 : Nat) (v1 : Int32) (m : Mm) : b_M_flies_0 (f + 1) v0 v1 m =
    if v1 < 0 then
      (ab_bo (0 : Int32)).bind fun y1 => some (.inl (some (.inl y1), m))
    else
      if (m.1 118 v0 0) ≤ v1 then
        (ab_bo (0 : Int32)).bind fun y2 => some (.inl (some (.inl y2), m))
      else
        (ab_bo (1 : Int32)).bind fun y3 => some (.inl (some (.inl y3), m)) := rfl
noncomputable def r_M_flies : Nat → Int32 → Mm → Option (Int32 × Mm) := ab_seal fun v0 v1 m => ab_rI (b_M_flies_0 50000 v0 v1 m)
theorem r_M_flies_eq (v0 : Nat) (v1 : Int32) (m : Mm) : r_M_flies v0 v1 m = ab_rI (b_M_flies_0 50000 v0 v1 m) := by
  unfold r_M_flies
  rw [ab_seal_eq]
noncomputable def c_M_flies : List AV → Mm → Option (Int32 × Mm) := fun av m => match av with
  | [.inr (.inr (kv0, ov0)), .inl v1] => if kv0 = 28 then (ov0.bind fun v0 => r_M_flies v0 v1 m) else none
  | _ => none
theorem c_M_flies_inv {av : List AV} {m : Mm} {r : Int32 × Mm} (h : c_M_flies av m = some r) : ∃ (v0 : Nat) (v1 : Int32), av = [.inr (.inr (28, some v0)), .inl v1] ∧ r_M_flies v0 v1 m = some r := by
  unfold c_M_flies at h
  split at h
  · rename_i kv0 ov0 v1
    by_cases hkv0 : kv0 = 28
    case neg => rw [if_neg hkv0] at h; cases h
    rw [if_pos hkv0] at h
    subst hkv0
    obtain ⟨v0, hev0, h⟩ := Option.bind_eq_some_iff.mp h
    subst hev0
    exact ⟨v0, v1, rfl, h⟩
  · cases h
def cs_M_flies : List Nat := []
set_option maxRecDepth 100000 in
theorem E_M_flies : ∀ (pc : Nat) (q : Ent), i_M_flies pc = some q → ab_E KT CL ab_gW "StreamTransportModel" "flies" (some .boolean) prog_12_method_37_code s_M_flies 2 pc q.1 q.2.1 q.2.2.1 q.2.2.2.1 q.2.2.2.2 := fun pc q hq =>
  ab_Eb_ok lc_M lj_M fl_M (fpn_M "flies") nw_M na_M nq_M (ab_tab_all (t := t_M_flies) (chk := fun pc q => ab_Eb (some .boolean) prog_12_method_37_code s_M_flies 2 LC_M LJ_M FL_M FPn_M NW_M NA_M NQ_M pc q.1 q.2.1 q.2.2.1 q.2.2.2.1 q.2.2.2.2) (by decide +kernel) hq)
set_option maxRecDepth 100000 in
theorem kp_M_flies {av : List AV} {m : Mm} {r : Int32 × Mm} (h : c_M_flies av m = some r) : ab_kp m r.2 := by
  obtain ⟨v0, v1, -, h⟩ := c_M_flies_inv h
  rw [r_M_flies_eq] at h
  have hV : ∀ a av m m', eV_M_flies a av m = some m' → ab_kp m m' := ab_ev_all (P := fun _ m r => ab_kp m r) [] (fun q hq => by cases hq)
  have hI : ∀ a av m q, eI_M_flies a av m = some q → ab_kp m q.2 := ab_ev_all (P := fun _ (m : Mm) (r : Int32 × Mm) => ab_kp m r.2) [] (fun q hq => by cases hq)
  exact ab_kprel (ρ := .inl (some (.inl r.1), r.2)) (ab_tab_isn (t := t_M_flies) (by decide +kernel)) hV hI (ab_rI_inv h)
set_option maxRecDepth 100000 in
theorem cl_M_flies (l : Launch) : ∀ (pc : Nat) (q : Ent), i_M_flies pc = some q → ab_inv q.1 = true → ab_CR l KT CL none ab_gW "StreamTransportModel" prog_12_method_37_code 2 0 0 eV_M_flies eI_M_flies pc q := by
  intro pc q hq hi
  have hm : pc ∈ cs_M_flies := ab_tab_cs (t := t_M_flies) (by decide +kernel) hq hi
  cases hm
theorem cw_M_flies : ab_cw y_M_flies prog_12_method_37_code 2 1 (some .boolean) := ⟨ab_gW_in 1251 (by decide +kernel) rfl, ab_gW_in 71 (by decide +kernel) rfl, by decide +kernel, by decide +kernel, by decide +kernel⟩
theorem is_M_flies : Cond.instanceMethod y_M_flies ∈ ab_gW := ab_gW_in 1250 (by decide +kernel) rfl
theorem sl_M_flies : Cond.selects "StreamTransportModel" y_M_flies y_M_flies ∈ ab_gW := ab_gW_in 46 (by decide +kernel) rfl
set_option maxRecDepth 100000 in
theorem cm_M_flies (l : Launch) {av : List AV} {m : Mm} {r : Int32 × Mm} (h0 : c_M_flies av m = some r) : ∃ (k q : Nat) (av' : List AV) (ci : Nat) (fs : List (Nat × Nat × Nat × Nat)) (z : vw_C), av = .inr (.inr (k, some q)) :: av' ∧ av'.length = 1 ∧ k ≠ 0 ∧ KT[k]? = some (.inl (ci, fs)) ∧ CL[ci]? = some z ∧ z.1 = "StreamTransportModel" ∧ ab_nos av' ∧ ab_Met l KT CL y_M_flies (Cond.code y_M_flies prog_12_method_37_code 2 (some .boolean) :: ab_gW) 0 0 none av m (some (.inl r.1)) r.2 := by
  obtain ⟨v0, v1, hav, h⟩ := c_M_flies_inv h0
  rw [r_M_flies_eq] at h
  have hmo : ab_mo m r.2 := ab_kp_mo (kp_M_flies h0)
  subst hav
  exact ⟨_, _, _, _, _, _, rfl, rfl, by decide, rfl, rfl, rfl, (by intro v hv q e; subst e; simp at hv), ab_met (by decide +kernel) KT_0 KT_nd KT_k3 E_M_flies (cl_M_flies l) hmo (Nat.le_of_ble_eq_true rfl) (ab_rI_inv h) (fun v hv => by cases hv; exact ⟨_, rfl⟩)⟩
/-! StreamTransportModel.outOf(I)V -/
def y_M_outOf : MethodName := ⟨"StreamTransportModel", "outOf", "(I)V"⟩
def t_M_outOf (pc : Nat) : Option Ent :=
  bif Nat.blt pc 22 then
    (bif Nat.blt pc 12 then
      (bif Nat.blt pc 5 then
        (bif Nat.blt pc 1 then
          (bif Nat.beq pc 0 then some (.aload_n 0, 0, 0, 0, 0) else none)
        else
          bif Nat.blt pc 2 then
            (bif Nat.beq pc 1 then some (.dup, 0, 0, 1, 0) else none)
          else
            bif Nat.beq pc 2 then some (.getfield 217, 10, 37, 0, 0) else none)
      else
        bif Nat.blt pc 7 then
          (bif Nat.blt pc 6 then
            (bif Nat.beq pc 5 then some (.iconst 1, 0, 0, 0, 1) else none)
          else
            bif Nat.beq pc 6 then some (.isub, 0, 0, 0, 0) else none)
        else
          bif Nat.blt pc 10 then
            (bif Nat.beq pc 7 then some (.putfield 217, 10, 37, 0, 0) else none)
          else
            bif Nat.beq pc 10 then some (.bipush 42, 0, 0, 0, 42) else none)
    else
      bif Nat.blt pc 15 then
        (bif Nat.blt pc 13 then
          (bif Nat.beq pc 12 then some (.iload_n 1, 1, 0, 0, 0) else none)
        else
          bif Nat.blt pc 14 then
            (bif Nat.beq pc 13 then some (.imul, 0, 0, 0, 0) else none)
          else
            bif Nat.beq pc 14 then some (.istore_n 2, 2, 0, 0, 0) else none)
      else
        bif Nat.blt pc 18 then
          (bif Nat.blt pc 16 then
            (bif Nat.beq pc 15 then some (.iload_n 2, 2, 0, 0, 0) else none)
          else
            bif Nat.beq pc 16 then some (.bipush 42, 0, 0, 0, 42) else none)
        else
          bif Nat.blt pc 19 then
            (bif Nat.beq pc 18 then some (.aload_n 0, 0, 0, 0, 0) else none)
          else
            bif Nat.beq pc 19 then some (.getfield 217, 10, 37, 0, 0) else none)
  else
    bif Nat.blt pc 35 then
      (bif Nat.blt pc 27 then
        (bif Nat.blt pc 23 then
          (bif Nat.beq pc 22 then some (.imul, 0, 0, 0, 0) else none)
        else
          bif Nat.blt pc 26 then
            (bif Nat.beq pc 23 then some (.if_icmp .ge (24), 47, 0, 0, 0) else none)
          else
            bif Nat.beq pc 26 then some (.aload_n 0, 0, 0, 0, 0) else none)
      else
        bif Nat.blt pc 31 then
          (bif Nat.blt pc 30 then
            (bif Nat.beq pc 27 then some (.getfield 110, 10, 38, 1, 0) else none)
          else
            bif Nat.beq pc 30 then some (.iload_n 2, 2, 0, 0, 0) else none)
        else
          bif Nat.blt pc 32 then
            (bif Nat.beq pc 31 then some (.aload_n 0, 0, 0, 0, 0) else none)
          else
            bif Nat.beq pc 32 then some (.getfield 110, 10, 38, 1, 0) else none)
    else
      bif Nat.blt pc 40 then
        (bif Nat.blt pc 38 then
          (bif Nat.blt pc 36 then
            (bif Nat.beq pc 35 then some (.iload_n 2, 2, 0, 0, 0) else none)
          else
            bif Nat.beq pc 36 then some (.bipush 42, 0, 0, 0, 42) else none)
        else
          bif Nat.blt pc 39 then
            (bif Nat.beq pc 38 then some (.iadd, 0, 0, 0, 0) else none)
          else
            bif Nat.beq pc 39 then some (.iaload, 0, 0, 0, 0) else none)
      else
        bif Nat.blt pc 44 then
          (bif Nat.blt pc 41 then
            (bif Nat.beq pc 40 then some (.iastore, 0, 0, 0, 0) else none)
          else
            bif Nat.beq pc 41 then some (.iinc 2 1, 2, 0, 0, 1) else none)
        else
          bif Nat.blt pc 47 then
            (bif Nat.beq pc 44 then some (.goto (-29), 15, 0, 0, 0) else none)
          else
            bif Nat.beq pc 47 then some (.return_, 0, 0, 0, 0) else none
def i_M_outOf : Nat → Option Ent := ab_tab 48 t_M_outOf
def h_M_outOf (pc : Nat) : Nat × List Bool := bif Nat.beq pc 15 then (1, [true, false, true]) else (0, [])
def s_M_outOf (pc : Nat) : List (Int32 × Nat) × Nat := ([], 0)
noncomputable def eV_M_outOf : Nat → List AV → Mm → Option Mm := ab_ev []
noncomputable def eI_M_outOf : Nat → List AV → Mm → Option (Int32 × Mm) := ab_ev []
noncomputable def b_M_outOf_0 (f : Nat) (v0 : Nat) (v1 : Int32) (m : Mm) : Option Rs := ab_ex KT none s_M_outOf eV_M_outOf eI_M_outOf i_M_outOf h_M_outOf f 0 [some (.inr (.inr (28, some v0))), some (.inl v1), none] [] m
noncomputable def b_M_outOf_15 (f : Nat) (v0 : Nat) (v2 : Int32) (m : Mm) : Option Rs := ab_ex KT none s_M_outOf eV_M_outOf eI_M_outOf i_M_outOf h_M_outOf f 15 [some (.inr (.inr (28, some v0))), none, some (.inl v2)] [] m
set_option maxRecDepth 100000 in
set_option maxHeartbeats 4000000 in
theorem b_M_outOf_0_eq (f : Nat) (v0 : Nat) (v1 : Int32) (m : Mm) : b_M_outOf_0 (f + 1) v0 v1 m =
    ab_let (ab_uI m 118 v0 0 ((m.1 118 v0 0) - (1 : Int32))) fun m1 =>
    ab_let (((42 : Int32) * v1)) fun x2 =>
    b_M_outOf_15 f v0 x2 m1 := rfl
set_option maxRecDepth 100000 in
set_option maxHeartbeats 4000000 in
theorem b_M_outOf_15_eq (f : Nat) (v0 : Nat) (v2 : Int32) (m : Mm) : b_M_outOf_15 (f + 1) v0 v2 m =
    if ((42 : Int32) * (m.1 118 v0 0)) ≤ v2 then
      some (.inl (none, m))
    else
      (ab_ix (v2 + (42 : Int32)) 672).bind fun i1 =>
      (ab_ix v2 672).bind fun i2 =>
      ab_let (ab_uI m 166 (v0 + 34) i2 (m.1 166 (v0 + 34) i1)) fun m3 =>
      ab_let (v2 + (1 : Int32)) fun x4 =>
      b_M_outOf_15 f v0 x4 m3 := rfl
noncomputable def r_M_outOf : Nat → Int32 → Mm → Option Mm := ab_seal fun v0 v1 m => ab_rV (b_M_outOf_0 50000 v0 v1 m)
theorem r_M_outOf_eq (v0 : Nat) (v1 : Int32) (m : Mm) : r_M_outOf v0 v1 m = ab_rV (b_M_outOf_0 50000 v0 v1 m) := by
  unfold r_M_outOf
  rw [ab_seal_eq]
noncomputable def c_M_outOf : List AV → Mm → Option Mm := fun av m => match av with
  | [.inr (.inr (kv0, ov0)), .inl v1] => if kv0 = 28 then (ov0.bind fun v0 => r_M_outOf v0 v1 m) else none
  | _ => none
theorem c_M_outOf_inv {av : List AV} {m : Mm} {r : Mm} (h : c_M_outOf av m = some r) : ∃ (v0 : Nat) (v1 : Int32), av = [.inr (.inr (28, some v0)), .inl v1] ∧ r_M_outOf v0 v1 m = some r := by
  unfold c_M_outOf at h
  split at h
  · rename_i kv0 ov0 v1
    by_cases hkv0 : kv0 = 28
    case neg => rw [if_neg hkv0] at h; cases h
    rw [if_pos hkv0] at h
    subst hkv0
    obtain ⟨v0, hev0, h⟩ := Option.bind_eq_some_iff.mp h
    subst hev0
    exact ⟨v0, v1, rfl, h⟩
  · cases h
def cs_M_outOf : List Nat := []
set_option maxRecDepth 100000 in
theorem E_M_outOf : ∀ (pc : Nat) (q : Ent), i_M_outOf pc = some q → ab_E KT CL ab_gW "StreamTransportModel" "outOf" none prog_12_method_38_code s_M_outOf 3 pc q.1 q.2.1 q.2.2.1 q.2.2.2.1 q.2.2.2.2 := fun pc q hq =>
  ab_Eb_ok lc_M lj_M fl_M (fpn_M "outOf") nw_M na_M nq_M (ab_tab_all (t := t_M_outOf) (chk := fun pc q => ab_Eb none prog_12_method_38_code s_M_outOf 3 LC_M LJ_M FL_M FPn_M NW_M NA_M NQ_M pc q.1 q.2.1 q.2.2.1 q.2.2.2.1 q.2.2.2.2) (by decide +kernel) hq)
set_option maxRecDepth 100000 in
theorem kp_M_outOf {av : List AV} {m : Mm} {r : Mm} (h : c_M_outOf av m = some r) : ab_kp m r := by
  obtain ⟨v0, v1, -, h⟩ := c_M_outOf_inv h
  rw [r_M_outOf_eq] at h
  have hV : ∀ a av m m', eV_M_outOf a av m = some m' → ab_kp m m' := ab_ev_all (P := fun _ m r => ab_kp m r) [] (fun q hq => by cases hq)
  have hI : ∀ a av m q, eI_M_outOf a av m = some q → ab_kp m q.2 := ab_ev_all (P := fun _ (m : Mm) (r : Int32 × Mm) => ab_kp m r.2) [] (fun q hq => by cases hq)
  exact ab_kprel (ρ := .inl (none, r)) (ab_tab_isn (t := t_M_outOf) (by decide +kernel)) hV hI (ab_rV_inv h)
set_option maxRecDepth 100000 in
theorem cl_M_outOf (l : Launch) : ∀ (pc : Nat) (q : Ent), i_M_outOf pc = some q → ab_inv q.1 = true → ab_CR l KT CL none ab_gW "StreamTransportModel" prog_12_method_38_code 3 0 0 eV_M_outOf eI_M_outOf pc q := by
  intro pc q hq hi
  have hm : pc ∈ cs_M_outOf := ab_tab_cs (t := t_M_outOf) (by decide +kernel) hq hi
  cases hm
theorem cw_M_outOf : ab_cw y_M_outOf prog_12_method_38_code 3 1 none := ⟨ab_gW_in 1255 (by decide +kernel) rfl, ab_gW_in 71 (by decide +kernel) rfl, by decide +kernel, by decide +kernel, by decide +kernel⟩
theorem is_M_outOf : Cond.instanceMethod y_M_outOf ∈ ab_gW := ab_gW_in 1254 (by decide +kernel) rfl
theorem sl_M_outOf : Cond.selects "StreamTransportModel" y_M_outOf y_M_outOf ∈ ab_gW := ab_gW_in 47 (by decide +kernel) rfl
set_option maxRecDepth 100000 in
theorem cm_M_outOf (l : Launch) {av : List AV} {m : Mm} {r : Mm} (h0 : c_M_outOf av m = some r) : ∃ (k q : Nat) (av' : List AV) (ci : Nat) (fs : List (Nat × Nat × Nat × Nat)) (z : vw_C), av = .inr (.inr (k, some q)) :: av' ∧ av'.length = 1 ∧ k ≠ 0 ∧ KT[k]? = some (.inl (ci, fs)) ∧ CL[ci]? = some z ∧ z.1 = "StreamTransportModel" ∧ ab_nos av' ∧ ab_Met l KT CL y_M_outOf (Cond.code y_M_outOf prog_12_method_38_code 3 none :: ab_gW) 0 0 none av m none r := by
  obtain ⟨v0, v1, hav, h⟩ := c_M_outOf_inv h0
  rw [r_M_outOf_eq] at h
  have hmo : ab_mo m r := ab_kp_mo (kp_M_outOf h0)
  subst hav
  exact ⟨_, _, _, _, _, _, rfl, rfl, by decide, rfl, rfl, rfl, (by intro v hv q e; subst e; simp at hv), ab_met (by decide +kernel) KT_0 KT_nd KT_k3 E_M_outOf (cl_M_outOf l) hmo (Nat.le_of_ble_eq_true rfl) (ab_rV_inv h) (fun v hv => by cases hv)⟩
/-! StreamTransportModel.deliver(I)I -/
def y_M_deliver : MethodName := ⟨"StreamTransportModel", "deliver", "(I)I"⟩
def t_M_deliver (pc : Nat) : Option Ent :=
  bif Nat.blt pc 42 then
    (bif Nat.blt pc 23 then
      (bif Nat.blt pc 13 then
        (bif Nat.blt pc 5 then
          (bif Nat.blt pc 1 then
            (bif Nat.beq pc 0 then some (.aload_n 0, 0, 0, 0, 0) else none)
          else
            bif Nat.blt pc 2 then
              (bif Nat.beq pc 1 then some (.iconst 0, 0, 0, 0, 0) else none)
            else
              bif Nat.beq pc 2 then some (.putfield 135, 10, 3, 0, 0) else none)
        else
          bif Nat.blt pc 7 then
            (bif Nat.blt pc 6 then
              (bif Nat.beq pc 5 then some (.aload_n 0, 0, 0, 0, 0) else none)
            else
              bif Nat.beq pc 6 then some (.iload_n 1, 1, 0, 0, 0) else none)
          else
            bif Nat.blt pc 10 then
              (bif Nat.beq pc 7 then some (.invokevirtual 262, 137, 2, 1, 0) else none)
            else
              bif Nat.beq pc 10 then some (.ifCond .ne (5), 15, 0, 0, 0) else none)
      else
        bif Nat.blt pc 16 then
          (bif Nat.blt pc 14 then
            (bif Nat.beq pc 13 then some (.iconst (-1), 0, 0, 0, -1) else none)
          else
            bif Nat.blt pc 15 then
              (bif Nat.beq pc 14 then some (.ireturn, 0, 0, 0, 0) else none)
            else
              bif Nat.beq pc 15 then some (.iconst 1, 0, 0, 0, 1) else none)
        else
          bif Nat.blt pc 20 then
            (bif Nat.blt pc 17 then
              (bif Nat.beq pc 16 then some (.aload_n 0, 0, 0, 0, 0) else none)
            else
              bif Nat.beq pc 17 then some (.getfield 110, 10, 38, 1, 0) else none)
          else
            bif Nat.blt pc 22 then
              (bif Nat.beq pc 20 then some (.bipush 42, 0, 0, 0, 42) else none)
            else
              bif Nat.beq pc 22 then some (.iload_n 1, 1, 0, 0, 0) else none)
    else
      bif Nat.blt pc 32 then
        (bif Nat.blt pc 26 then
          (bif Nat.blt pc 24 then
            (bif Nat.beq pc 23 then some (.imul, 0, 0, 0, 0) else none)
          else
            bif Nat.blt pc 25 then
              (bif Nat.beq pc 24 then some (.iaload, 0, 0, 0, 0) else none)
            else
              bif Nat.beq pc 25 then some (.isub, 0, 0, 0, 0) else none)
        else
          bif Nat.blt pc 28 then
            (bif Nat.blt pc 27 then
              (bif Nat.beq pc 26 then some (.istore_n 2, 2, 0, 0, 0) else none)
            else
              bif Nat.beq pc 27 then some (.aload_n 0, 0, 0, 0, 0) else none)
          else
            bif Nat.blt pc 29 then
              (bif Nat.beq pc 28 then some (.aload_n 0, 0, 0, 0, 0) else none)
            else
              bif Nat.beq pc 29 then some (.getfield 110, 10, 38, 1, 0) else none)
      else
        bif Nat.blt pc 36 then
          (bif Nat.blt pc 34 then
            (bif Nat.beq pc 32 then some (.bipush 42, 0, 0, 0, 42) else none)
          else
            bif Nat.blt pc 35 then
              (bif Nat.beq pc 34 then some (.iload_n 1, 1, 0, 0, 0) else none)
            else
              bif Nat.beq pc 35 then some (.imul, 0, 0, 0, 0) else none)
        else
          bif Nat.blt pc 38 then
            (bif Nat.blt pc 37 then
              (bif Nat.beq pc 36 then some (.iconst 1, 0, 0, 0, 1) else none)
            else
              bif Nat.beq pc 37 then some (.iadd, 0, 0, 0, 0) else none)
          else
            bif Nat.blt pc 39 then
              (bif Nat.beq pc 38 then some (.iaload, 0, 0, 0, 0) else none)
            else
              bif Nat.beq pc 39 then some (.putfield 223, 10, 42, 0, 0) else none)
  else
    bif Nat.blt pc 65 then
      (bif Nat.blt pc 53 then
        (bif Nat.blt pc 45 then
          (bif Nat.blt pc 43 then
            (bif Nat.beq pc 42 then some (.iconst 0, 0, 0, 0, 0) else none)
          else
            bif Nat.blt pc 44 then
              (bif Nat.beq pc 43 then some (.istore_n 3, 3, 0, 0, 0) else none)
            else
              bif Nat.beq pc 44 then some (.iload_n 3, 3, 0, 0, 0) else none)
        else
          bif Nat.blt pc 49 then
            (bif Nat.blt pc 46 then
              (bif Nat.beq pc 45 then some (.aload_n 0, 0, 0, 0, 0) else none)
            else
              bif Nat.beq pc 46 then some (.getfield 223, 10, 42, 0, 0) else none)
          else
            bif Nat.blt pc 52 then
              (bif Nat.beq pc 49 then some (.if_icmp .ge (28), 77, 0, 0, 0) else none)
            else
              bif Nat.beq pc 52 then some (.aload_n 0, 0, 0, 0, 0) else none)
      else
        bif Nat.blt pc 58 then
          (bif Nat.blt pc 56 then
            (bif Nat.beq pc 53 then some (.getfield 113, 10, 39, 1, 0) else none)
          else
            bif Nat.blt pc 57 then
              (bif Nat.beq pc 56 then some (.iload_n 3, 3, 0, 0, 0) else none)
            else
              bif Nat.beq pc 57 then some (.aload_n 0, 0, 0, 0, 0) else none)
        else
          bif Nat.blt pc 63 then
            (bif Nat.blt pc 61 then
              (bif Nat.beq pc 58 then some (.getfield 110, 10, 38, 1, 0) else none)
            else
              bif Nat.beq pc 61 then some (.bipush 42, 0, 0, 0, 42) else none)
          else
            bif Nat.blt pc 64 then
              (bif Nat.beq pc 63 then some (.iload_n 1, 1, 0, 0, 0) else none)
            else
              bif Nat.beq pc 64 then some (.imul, 0, 0, 0, 0) else none)
    else
      bif Nat.blt pc 74 then
        (bif Nat.blt pc 68 then
          (bif Nat.blt pc 66 then
            (bif Nat.beq pc 65 then some (.iconst 2, 0, 0, 0, 2) else none)
          else
            bif Nat.blt pc 67 then
              (bif Nat.beq pc 66 then some (.iadd, 0, 0, 0, 0) else none)
            else
              bif Nat.beq pc 67 then some (.iload_n 3, 3, 0, 0, 0) else none)
        else
          bif Nat.blt pc 70 then
            (bif Nat.blt pc 69 then
              (bif Nat.beq pc 68 then some (.iadd, 0, 0, 0, 0) else none)
            else
              bif Nat.beq pc 69 then some (.iaload, 0, 0, 0, 0) else none)
          else
            bif Nat.blt pc 71 then
              (bif Nat.beq pc 70 then some (.iastore, 0, 0, 0, 0) else none)
            else
              bif Nat.beq pc 71 then some (.iinc 3 1, 3, 0, 0, 1) else none)
      else
        bif Nat.blt pc 82 then
          (bif Nat.blt pc 78 then
            (bif Nat.blt pc 77 then
              (bif Nat.beq pc 74 then some (.goto (-30), 44, 0, 0, 0) else none)
            else
              bif Nat.beq pc 77 then some (.aload_n 0, 0, 0, 0, 0) else none)
          else
            bif Nat.blt pc 79 then
              (bif Nat.beq pc 78 then some (.iload_n 1, 1, 0, 0, 0) else none)
            else
              bif Nat.beq pc 79 then some (.invokevirtual 265, 138, 2, 0, 0) else none)
        else
          bif Nat.blt pc 84 then
            (bif Nat.blt pc 83 then
              (bif Nat.beq pc 82 then some (.aload_n 0, 0, 0, 0, 0) else none)
            else
              bif Nat.beq pc 83 then some (.iload_n 2, 2, 0, 0, 0) else none)
          else
            bif Nat.blt pc 87 then
              (bif Nat.beq pc 84 then some (.invokevirtual 268, 136, 2, 1, 0) else none)
            else
              bif Nat.beq pc 87 then some (.ireturn, 0, 0, 0, 0) else none
def i_M_deliver : Nat → Option Ent := ab_tab 88 t_M_deliver
def h_M_deliver (pc : Nat) : Nat × List Bool := bif Nat.beq pc 44 then (1, [true, true, true, true]) else (0, [])
def s_M_deliver (pc : Nat) : List (Int32 × Nat) × Nat := ([], 0)
noncomputable def eV_M_deliver : Nat → List AV → Mm → Option Mm := ab_ev [(138, c_M_outOf)]
noncomputable def eI_M_deliver : Nat → List AV → Mm → Option (Int32 × Mm) := ab_ev [(137, c_M_flies), (136, c_M_receive)]
noncomputable def b_M_deliver_0 (f : Nat) (v0 : Nat) (v1 : Int32) (m : Mm) : Option Rs := ab_ex KT none s_M_deliver eV_M_deliver eI_M_deliver i_M_deliver h_M_deliver f 0 [some (.inr (.inr (28, some v0))), some (.inl v1), none, none] [] m
noncomputable def b_M_deliver_44 (f : Nat) (v0 : Nat) (v1 : Int32) (v2 : Int32) (v3 : Int32) (m : Mm) : Option Rs := ab_ex KT none s_M_deliver eV_M_deliver eI_M_deliver i_M_deliver h_M_deliver f 44 [some (.inr (.inr (28, some v0))), some (.inl v1), some (.inl v2), some (.inl v3)] [] m
set_option maxRecDepth 100000 in
set_option maxHeartbeats 4000000 in
theorem b_M_deliver_0_eq (f : Nat) (v0 : Nat) (v1 : Int32) (m : Mm) : b_M_deliver_0 (f + 1) v0 v1 m =
    ab_let (ab_uI m 84 v0 0 (0 : Int32)) fun m1 =>
    (r_M_flies v0 v1 m1).bind fun z2 =>
    if z2.1 = 0 then
      some (.inl (some (.inl (-1 : Int32)), z2.2))
    else
      (ab_ix ((42 : Int32) * v1) 672).bind fun i3 =>
      ab_let (((1 : Int32) - (z2.2.1 166 (v0 + 34) i3))) fun x4 =>
      (ab_ix (((42 : Int32) * v1) + (1 : Int32)) 672).bind fun i5 =>
      ab_let (ab_uI z2.2 123 v0 0 (z2.2.1 166 (v0 + 34) i5)) fun m6 =>
      b_M_deliver_44 f v0 v1 x4 (0 : Int32) m6 := rfl
set_option maxRecDepth 100000 in
set_option maxHeartbeats 4000000 in
theorem b_M_deliver_44_eq (f : Nat) (v0 : Nat) (v1 : Int32) (v2 : Int32) (v3 : Int32) (m : Mm) : b_M_deliver_44 (f + 1) v0 v1 v2 v3 m =
    if (m.1 123 v0 0) ≤ v3 then
      (r_M_outOf v0 v1 m).bind fun m1 =>
      (r_M_receive v0 v2 m1).bind fun z2 =>
      some (.inl (some (.inl z2.1), z2.2))
    else
      (ab_ix ((((42 : Int32) * v1) + (2 : Int32)) + v3) 672).bind fun i3 =>
      (ab_ix v3 48).bind fun i4 =>
      ab_let (ab_uI m 167 (v0 + 35) i4 (m.1 166 (v0 + 34) i3)) fun m5 =>
      ab_let (v3 + (1 : Int32)) fun x6 =>
      b_M_deliver_44 f v0 v1 v2 x6 m5 := rfl
noncomputable def r_M_deliver : Nat → Int32 → Mm → Option (Int32 × Mm) := ab_seal fun v0 v1 m => ab_rI (b_M_deliver_0 50000 v0 v1 m)
theorem r_M_deliver_eq (v0 : Nat) (v1 : Int32) (m : Mm) : r_M_deliver v0 v1 m = ab_rI (b_M_deliver_0 50000 v0 v1 m) := by
  unfold r_M_deliver
  rw [ab_seal_eq]
noncomputable def c_M_deliver : List AV → Mm → Option (Int32 × Mm) := fun av m => match av with
  | [.inr (.inr (kv0, ov0)), .inl v1] => if kv0 = 28 then (ov0.bind fun v0 => r_M_deliver v0 v1 m) else none
  | _ => none
theorem c_M_deliver_inv {av : List AV} {m : Mm} {r : Int32 × Mm} (h : c_M_deliver av m = some r) : ∃ (v0 : Nat) (v1 : Int32), av = [.inr (.inr (28, some v0)), .inl v1] ∧ r_M_deliver v0 v1 m = some r := by
  unfold c_M_deliver at h
  split at h
  · rename_i kv0 ov0 v1
    by_cases hkv0 : kv0 = 28
    case neg => rw [if_neg hkv0] at h; cases h
    rw [if_pos hkv0] at h
    subst hkv0
    obtain ⟨v0, hev0, h⟩ := Option.bind_eq_some_iff.mp h
    subst hev0
    exact ⟨v0, v1, rfl, h⟩
  · cases h
def cs_M_deliver : List Nat := [7, 79, 84]
set_option maxRecDepth 100000 in
theorem E_M_deliver : ∀ (pc : Nat) (q : Ent), i_M_deliver pc = some q → ab_E KT CL ab_gW "StreamTransportModel" "deliver" (some .int) prog_12_method_39_code s_M_deliver 4 pc q.1 q.2.1 q.2.2.1 q.2.2.2.1 q.2.2.2.2 := fun pc q hq =>
  ab_Eb_ok lc_M lj_M fl_M (fpn_M "deliver") nw_M na_M nq_M (ab_tab_all (t := t_M_deliver) (chk := fun pc q => ab_Eb (some .int) prog_12_method_39_code s_M_deliver 4 LC_M LJ_M FL_M FPn_M NW_M NA_M NQ_M pc q.1 q.2.1 q.2.2.1 q.2.2.2.1 q.2.2.2.2) (by decide +kernel) hq)
set_option maxRecDepth 100000 in
theorem kp_M_deliver {av : List AV} {m : Mm} {r : Int32 × Mm} (h : c_M_deliver av m = some r) : ab_kp m r.2 := by
  obtain ⟨v0, v1, -, h⟩ := c_M_deliver_inv h
  rw [r_M_deliver_eq] at h
  have hV : ∀ a av m m', eV_M_deliver a av m = some m' → ab_kp m m' := ab_ev_all (P := fun _ m r => ab_kp m r) [(138, c_M_outOf)] (List.forall_mem_cons.mpr ⟨fun av m r h => kp_M_outOf h, fun q hq => by cases hq⟩)
  have hI : ∀ a av m q, eI_M_deliver a av m = some q → ab_kp m q.2 := ab_ev_all (P := fun _ (m : Mm) (r : Int32 × Mm) => ab_kp m r.2) [(137, c_M_flies), (136, c_M_receive)] (List.forall_mem_cons.mpr ⟨fun av m r h => kp_M_flies h, List.forall_mem_cons.mpr ⟨fun av m r h => kp_M_receive h, fun q hq => by cases hq⟩⟩)
  exact ab_kprel (ρ := .inl (some (.inl r.1), r.2)) (ab_tab_isn (t := t_M_deliver) (by decide +kernel)) hV hI (ab_rI_inv h)
set_option maxRecDepth 100000 in
theorem cl_M_deliver (l : Launch) : ∀ (pc : Nat) (q : Ent), i_M_deliver pc = some q → ab_inv q.1 = true → ab_CR l KT CL none ab_gW "StreamTransportModel" prog_12_method_39_code 4 5 120 eV_M_deliver eI_M_deliver pc q := by
  intro pc q hq hi
  have hm : pc ∈ cs_M_deliver := ab_tab_cs (t := t_M_deliver) (by decide +kernel) hq hi
  simp only [cs_M_deliver, List.mem_cons, List.not_mem_nil, or_false] at hm
  rcases hm with rfl | rfl | rfl
  · cases (Option.some.inj hq : ((.invokevirtual 262, 137, 2, 1, 0) : Ent) = q)
    exact ab_crV (C := "StreamTransportModel") (by decide +kernel) cw_M_flies (ab_gW_in 1248 (by decide +kernel) rfl) is_M_flies sl_M_flies (by decide) (fun av m m' h => by cases h) (fun av m r h => cm_M_flies l h) KT_nd
  · cases (Option.some.inj hq : ((.invokevirtual 265, 138, 2, 0, 0) : Ent) = q)
    exact ab_crV (C := "StreamTransportModel") (by decide +kernel) cw_M_outOf (ab_gW_in 1252 (by decide +kernel) rfl) is_M_outOf sl_M_outOf (by decide) (fun av m m' h => cm_M_outOf l h) (fun av m r h => by cases h) KT_nd
  · cases (Option.some.inj hq : ((.invokevirtual 268, 136, 2, 1, 0) : Ent) = q)
    exact ab_crV (C := "StreamTransportModel") (by decide +kernel) cw_M_receive (ab_gW_in 1256 (by decide +kernel) rfl) is_M_receive sl_M_receive (by decide) (fun av m m' h => by cases h) (fun av m r h => cm_M_receive l h) KT_nd
theorem cw_M_deliver : ab_cw y_M_deliver prog_12_method_39_code 4 1 (some .int) := ⟨ab_gW_in 1247 (by decide +kernel) rfl, ab_gW_in 71 (by decide +kernel) rfl, by decide +kernel, by decide +kernel, by decide +kernel⟩
theorem is_M_deliver : Cond.instanceMethod y_M_deliver ∈ ab_gW := ab_gW_in 1245 (by decide +kernel) rfl
theorem sl_M_deliver : Cond.selects "StreamTransportModel" y_M_deliver y_M_deliver ∈ ab_gW := ab_gW_in 1246 (by decide +kernel) rfl
set_option maxRecDepth 100000 in
theorem cm_M_deliver (l : Launch) {av : List AV} {m : Mm} {r : Int32 × Mm} (h0 : c_M_deliver av m = some r) : ∃ (k q : Nat) (av' : List AV) (ci : Nat) (fs : List (Nat × Nat × Nat × Nat)) (z : vw_C), av = .inr (.inr (k, some q)) :: av' ∧ av'.length = 1 ∧ k ≠ 0 ∧ KT[k]? = some (.inl (ci, fs)) ∧ CL[ci]? = some z ∧ z.1 = "StreamTransportModel" ∧ ab_nos av' ∧ ab_Met l KT CL y_M_deliver (Cond.code y_M_deliver prog_12_method_39_code 4 (some .int) :: ab_gW) 5 120 none av m (some (.inl r.1)) r.2 := by
  obtain ⟨v0, v1, hav, h⟩ := c_M_deliver_inv h0
  rw [r_M_deliver_eq] at h
  have hmo : ab_mo m r.2 := ab_kp_mo (kp_M_deliver h0)
  subst hav
  exact ⟨_, _, _, _, _, _, rfl, rfl, by decide, rfl, rfl, rfl, (by intro v hv q e; subst e; simp at hv), ab_met (by decide +kernel) KT_0 KT_nd KT_k3 E_M_deliver (cl_M_deliver l) hmo (Nat.le_of_ble_eq_true rfl) (ab_rI_inv h) (fun v hv => by cases hv; exact ⟨_, rfl⟩)⟩
/-! StreamTransportModel.lose(I)Z -/
def y_M_lose : MethodName := ⟨"StreamTransportModel", "lose", "(I)Z"⟩
def t_M_lose (pc : Nat) : Option Ent :=
  bif Nat.blt pc 13 then
    (bif Nat.blt pc 5 then
      (bif Nat.blt pc 1 then
        (bif Nat.beq pc 0 then some (.aload_n 0, 0, 0, 0, 0) else none)
      else
        bif Nat.blt pc 2 then
          (bif Nat.beq pc 1 then some (.iconst 0, 0, 0, 0, 0) else none)
        else
          bif Nat.beq pc 2 then some (.putfield 135, 10, 3, 0, 0) else none)
    else
      bif Nat.blt pc 7 then
        (bif Nat.blt pc 6 then
          (bif Nat.beq pc 5 then some (.aload_n 0, 0, 0, 0, 0) else none)
        else
          bif Nat.beq pc 6 then some (.iload_n 1, 1, 0, 0, 0) else none)
      else
        bif Nat.blt pc 10 then
          (bif Nat.beq pc 7 then some (.invokevirtual 262, 137, 2, 1, 0) else none)
        else
          bif Nat.beq pc 10 then some (.ifCond .ne (5), 15, 0, 0, 0) else none)
  else
    bif Nat.blt pc 16 then
      (bif Nat.blt pc 14 then
        (bif Nat.beq pc 13 then some (.iconst 0, 0, 0, 0, 0) else none)
      else
        bif Nat.blt pc 15 then
          (bif Nat.beq pc 14 then some (.ireturn, 0, 0, 1, 0) else none)
        else
          bif Nat.beq pc 15 then some (.aload_n 0, 0, 0, 0, 0) else none)
    else
      bif Nat.blt pc 20 then
        (bif Nat.blt pc 17 then
          (bif Nat.beq pc 16 then some (.iload_n 1, 1, 0, 0, 0) else none)
        else
          bif Nat.beq pc 17 then some (.invokevirtual 265, 138, 2, 0, 0) else none)
      else
        bif Nat.blt pc 21 then
          (bif Nat.beq pc 20 then some (.iconst 1, 0, 0, 0, 1) else none)
        else
          bif Nat.beq pc 21 then some (.ireturn, 0, 0, 1, 0) else none
def i_M_lose : Nat → Option Ent := ab_tab 22 t_M_lose
def h_M_lose (pc : Nat) : Nat × List Bool := (0, [])
def s_M_lose (pc : Nat) : List (Int32 × Nat) × Nat := ([], 0)
noncomputable def eV_M_lose : Nat → List AV → Mm → Option Mm := ab_ev [(138, c_M_outOf)]
noncomputable def eI_M_lose : Nat → List AV → Mm → Option (Int32 × Mm) := ab_ev [(137, c_M_flies)]
noncomputable def b_M_lose_0 (f : Nat) (v0 : Nat) (v1 : Int32) (m : Mm) : Option Rs := ab_ex KT none s_M_lose eV_M_lose eI_M_lose i_M_lose h_M_lose f 0 [some (.inr (.inr (28, some v0))), some (.inl v1)] [] m
set_option maxRecDepth 100000 in
set_option maxHeartbeats 4000000 in
theorem b_M_lose_0_eq (f : Nat) (v0 : Nat) (v1 : Int32) (m : Mm) : b_M_lose_0 (f + 1) v0 v1 m =
    ab_let (ab_uI m 84 v0 0 (0 : Int32)) fun m1 =>
    (r_M_flies v0 v1 m1).bind fun z2 =>
    if z2.1 = 0 then
      (ab_bo (0 : Int32)).bind fun y5 => some (.inl (some (.inl y5), z2.2))
    else
      (r_M_outOf v0 v1 z2.2).bind fun m3 =>
      (ab_bo (1 : Int32)).bind fun y4 => some (.inl (some (.inl y4), m3)) := rfl
noncomputable def r_M_lose : Nat → Int32 → Mm → Option (Int32 × Mm) := ab_seal fun v0 v1 m => ab_rI (b_M_lose_0 50000 v0 v1 m)
theorem r_M_lose_eq (v0 : Nat) (v1 : Int32) (m : Mm) : r_M_lose v0 v1 m = ab_rI (b_M_lose_0 50000 v0 v1 m) := by
  unfold r_M_lose
  rw [ab_seal_eq]
noncomputable def c_M_lose : List AV → Mm → Option (Int32 × Mm) := fun av m => match av with
  | [.inr (.inr (kv0, ov0)), .inl v1] => if kv0 = 28 then (ov0.bind fun v0 => r_M_lose v0 v1 m) else none
  | _ => none
theorem c_M_lose_inv {av : List AV} {m : Mm} {r : Int32 × Mm} (h : c_M_lose av m = some r) : ∃ (v0 : Nat) (v1 : Int32), av = [.inr (.inr (28, some v0)), .inl v1] ∧ r_M_lose v0 v1 m = some r := by
  unfold c_M_lose at h
  split at h
  · rename_i kv0 ov0 v1
    by_cases hkv0 : kv0 = 28
    case neg => rw [if_neg hkv0] at h; cases h
    rw [if_pos hkv0] at h
    subst hkv0
    obtain ⟨v0, hev0, h⟩ := Option.bind_eq_some_iff.mp h
    subst hev0
    exact ⟨v0, v1, rfl, h⟩
  · cases h
def cs_M_lose : List Nat := [7, 17]
set_option maxRecDepth 100000 in
theorem E_M_lose : ∀ (pc : Nat) (q : Ent), i_M_lose pc = some q → ab_E KT CL ab_gW "StreamTransportModel" "lose" (some .boolean) prog_12_method_40_code s_M_lose 2 pc q.1 q.2.1 q.2.2.1 q.2.2.2.1 q.2.2.2.2 := fun pc q hq =>
  ab_Eb_ok lc_M lj_M fl_M (fpn_M "lose") nw_M na_M nq_M (ab_tab_all (t := t_M_lose) (chk := fun pc q => ab_Eb (some .boolean) prog_12_method_40_code s_M_lose 2 LC_M LJ_M FL_M FPn_M NW_M NA_M NQ_M pc q.1 q.2.1 q.2.2.1 q.2.2.2.1 q.2.2.2.2) (by decide +kernel) hq)
set_option maxRecDepth 100000 in
theorem kp_M_lose {av : List AV} {m : Mm} {r : Int32 × Mm} (h : c_M_lose av m = some r) : ab_kp m r.2 := by
  obtain ⟨v0, v1, -, h⟩ := c_M_lose_inv h
  rw [r_M_lose_eq] at h
  have hV : ∀ a av m m', eV_M_lose a av m = some m' → ab_kp m m' := ab_ev_all (P := fun _ m r => ab_kp m r) [(138, c_M_outOf)] (List.forall_mem_cons.mpr ⟨fun av m r h => kp_M_outOf h, fun q hq => by cases hq⟩)
  have hI : ∀ a av m q, eI_M_lose a av m = some q → ab_kp m q.2 := ab_ev_all (P := fun _ (m : Mm) (r : Int32 × Mm) => ab_kp m r.2) [(137, c_M_flies)] (List.forall_mem_cons.mpr ⟨fun av m r h => kp_M_flies h, fun q hq => by cases hq⟩)
  exact ab_kprel (ρ := .inl (some (.inl r.1), r.2)) (ab_tab_isn (t := t_M_lose) (by decide +kernel)) hV hI (ab_rI_inv h)
set_option maxRecDepth 100000 in
theorem cl_M_lose (l : Launch) : ∀ (pc : Nat) (q : Ent), i_M_lose pc = some q → ab_inv q.1 = true → ab_CR l KT CL none ab_gW "StreamTransportModel" prog_12_method_40_code 2 1 22 eV_M_lose eI_M_lose pc q := by
  intro pc q hq hi
  have hm : pc ∈ cs_M_lose := ab_tab_cs (t := t_M_lose) (by decide +kernel) hq hi
  simp only [cs_M_lose, List.mem_cons, List.not_mem_nil, or_false] at hm
  rcases hm with rfl | rfl
  · cases (Option.some.inj hq : ((.invokevirtual 262, 137, 2, 1, 0) : Ent) = q)
    exact ab_crV (C := "StreamTransportModel") (by decide +kernel) cw_M_flies (ab_gW_in 1248 (by decide +kernel) rfl) is_M_flies sl_M_flies (by decide) (fun av m m' h => by cases h) (fun av m r h => cm_M_flies l h) KT_nd
  · cases (Option.some.inj hq : ((.invokevirtual 265, 138, 2, 0, 0) : Ent) = q)
    exact ab_crV (C := "StreamTransportModel") (by decide +kernel) cw_M_outOf (ab_gW_in 1252 (by decide +kernel) rfl) is_M_outOf sl_M_outOf (by decide) (fun av m m' h => cm_M_outOf l h) (fun av m r h => by cases h) KT_nd
theorem cw_M_lose : ab_cw y_M_lose prog_12_method_40_code 2 1 (some .boolean) := ⟨ab_gW_in 1301 (by decide +kernel) rfl, ab_gW_in 71 (by decide +kernel) rfl, by decide +kernel, by decide +kernel, by decide +kernel⟩
theorem is_M_lose : Cond.instanceMethod y_M_lose ∈ ab_gW := ab_gW_in 1299 (by decide +kernel) rfl
theorem sl_M_lose : Cond.selects "StreamTransportModel" y_M_lose y_M_lose ∈ ab_gW := ab_gW_in 1300 (by decide +kernel) rfl
set_option maxRecDepth 100000 in
theorem cm_M_lose (l : Launch) {av : List AV} {m : Mm} {r : Int32 × Mm} (h0 : c_M_lose av m = some r) : ∃ (k q : Nat) (av' : List AV) (ci : Nat) (fs : List (Nat × Nat × Nat × Nat)) (z : vw_C), av = .inr (.inr (k, some q)) :: av' ∧ av'.length = 1 ∧ k ≠ 0 ∧ KT[k]? = some (.inl (ci, fs)) ∧ CL[ci]? = some z ∧ z.1 = "StreamTransportModel" ∧ ab_nos av' ∧ ab_Met l KT CL y_M_lose (Cond.code y_M_lose prog_12_method_40_code 2 (some .boolean) :: ab_gW) 1 22 none av m (some (.inl r.1)) r.2 := by
  obtain ⟨v0, v1, hav, h⟩ := c_M_lose_inv h0
  rw [r_M_lose_eq] at h
  have hmo : ab_mo m r.2 := ab_kp_mo (kp_M_lose h0)
  subst hav
  exact ⟨_, _, _, _, _, _, rfl, rfl, by decide, rfl, rfl, rfl, (by intro v hv q e; subst e; simp at hv), ab_met (by decide +kernel) KT_0 KT_nd KT_k3 E_M_lose (cl_M_lose l) hmo (Nat.le_of_ble_eq_true rfl) (ab_rI_inv h) (fun v hv => by cases hv; exact ⟨_, rfl⟩)⟩
/-! StreamTransportModel.copy(I)Z -/
def y_M_copy : MethodName := ⟨"StreamTransportModel", "copy", "(I)Z"⟩
def t_M_copy (pc : Nat) : Option Ent :=
  bif Nat.blt pc 39 then
    (bif Nat.blt pc 22 then
      (bif Nat.blt pc 7 then
        (bif Nat.blt pc 2 then
          (bif Nat.blt pc 1 then
            (bif Nat.beq pc 0 then some (.aload_n 0, 0, 0, 0, 0) else none)
          else
            bif Nat.beq pc 1 then some (.iconst 0, 0, 0, 0, 0) else none)
        else
          bif Nat.blt pc 5 then
            (bif Nat.beq pc 2 then some (.putfield 135, 10, 3, 0, 0) else none)
          else
            bif Nat.blt pc 6 then
              (bif Nat.beq pc 5 then some (.aload_n 0, 0, 0, 0, 0) else none)
            else
              bif Nat.beq pc 6 then some (.iload_n 1, 1, 0, 0, 0) else none)
      else
        bif Nat.blt pc 14 then
          (bif Nat.blt pc 10 then
            (bif Nat.beq pc 7 then some (.invokevirtual 262, 137, 2, 1, 0) else none)
          else
            bif Nat.blt pc 13 then
              (bif Nat.beq pc 10 then some (.ifCond .eq (12), 22, 0, 0, 0) else none)
            else
              bif Nat.beq pc 13 then some (.aload_n 0, 0, 0, 0, 0) else none)
        else
          bif Nat.blt pc 17 then
            (bif Nat.beq pc 14 then some (.getfield 217, 10, 37, 0, 0) else none)
          else
            bif Nat.blt pc 19 then
              (bif Nat.beq pc 17 then some (.bipush 16, 0, 0, 0, 16) else none)
            else
              bif Nat.beq pc 19 then some (.if_icmp .ne (5), 24, 0, 0, 0) else none)
    else
      bif Nat.blt pc 27 then
        (bif Nat.blt pc 24 then
          (bif Nat.blt pc 23 then
            (bif Nat.beq pc 22 then some (.iconst 0, 0, 0, 0, 0) else none)
          else
            bif Nat.beq pc 23 then some (.ireturn, 0, 0, 1, 0) else none)
        else
          bif Nat.blt pc 25 then
            (bif Nat.beq pc 24 then some (.iconst 0, 0, 0, 0, 0) else none)
          else
            bif Nat.blt pc 26 then
              (bif Nat.beq pc 25 then some (.istore_n 2, 2, 0, 0, 0) else none)
            else
              bif Nat.beq pc 26 then some (.iload_n 2, 2, 0, 0, 0) else none)
      else
        bif Nat.blt pc 33 then
          (bif Nat.blt pc 29 then
            (bif Nat.beq pc 27 then some (.bipush 42, 0, 0, 0, 42) else none)
          else
            bif Nat.blt pc 32 then
              (bif Nat.beq pc 29 then some (.if_icmp .ge (34), 63, 0, 0, 0) else none)
            else
              bif Nat.beq pc 32 then some (.aload_n 0, 0, 0, 0, 0) else none)
        else
          bif Nat.blt pc 36 then
            (bif Nat.beq pc 33 then some (.getfield 110, 10, 38, 1, 0) else none)
          else
            bif Nat.blt pc 38 then
              (bif Nat.beq pc 36 then some (.bipush 42, 0, 0, 0, 42) else none)
            else
              bif Nat.beq pc 38 then some (.aload_n 0, 0, 0, 0, 0) else none)
  else
    bif Nat.blt pc 55 then
      (bif Nat.blt pc 46 then
        (bif Nat.blt pc 43 then
          (bif Nat.blt pc 42 then
            (bif Nat.beq pc 39 then some (.getfield 217, 10, 37, 0, 0) else none)
          else
            bif Nat.beq pc 42 then some (.imul, 0, 0, 0, 0) else none)
        else
          bif Nat.blt pc 44 then
            (bif Nat.beq pc 43 then some (.iload_n 2, 2, 0, 0, 0) else none)
          else
            bif Nat.blt pc 45 then
              (bif Nat.beq pc 44 then some (.iadd, 0, 0, 0, 0) else none)
            else
              bif Nat.beq pc 45 then some (.aload_n 0, 0, 0, 0, 0) else none)
      else
        bif Nat.blt pc 52 then
          (bif Nat.blt pc 49 then
            (bif Nat.beq pc 46 then some (.getfield 110, 10, 38, 1, 0) else none)
          else
            bif Nat.blt pc 51 then
              (bif Nat.beq pc 49 then some (.bipush 42, 0, 0, 0, 42) else none)
            else
              bif Nat.beq pc 51 then some (.iload_n 1, 1, 0, 0, 0) else none)
        else
          bif Nat.blt pc 53 then
            (bif Nat.beq pc 52 then some (.imul, 0, 0, 0, 0) else none)
          else
            bif Nat.blt pc 54 then
              (bif Nat.beq pc 53 then some (.iload_n 2, 2, 0, 0, 0) else none)
            else
              bif Nat.beq pc 54 then some (.iadd, 0, 0, 0, 0) else none)
    else
      bif Nat.blt pc 65 then
        (bif Nat.blt pc 60 then
          (bif Nat.blt pc 56 then
            (bif Nat.beq pc 55 then some (.iaload, 0, 0, 0, 0) else none)
          else
            bif Nat.blt pc 57 then
              (bif Nat.beq pc 56 then some (.iastore, 0, 0, 0, 0) else none)
            else
              bif Nat.beq pc 57 then some (.iinc 2 1, 2, 0, 0, 1) else none)
        else
          bif Nat.blt pc 63 then
            (bif Nat.beq pc 60 then some (.goto (-34), 26, 0, 0, 0) else none)
          else
            bif Nat.blt pc 64 then
              (bif Nat.beq pc 63 then some (.aload_n 0, 0, 0, 0, 0) else none)
            else
              bif Nat.beq pc 64 then some (.dup, 0, 0, 1, 0) else none)
      else
        bif Nat.blt pc 70 then
          (bif Nat.blt pc 68 then
            (bif Nat.beq pc 65 then some (.getfield 217, 10, 37, 0, 0) else none)
          else
            bif Nat.blt pc 69 then
              (bif Nat.beq pc 68 then some (.iconst 1, 0, 0, 0, 1) else none)
            else
              bif Nat.beq pc 69 then some (.iadd, 0, 0, 0, 0) else none)
        else
          bif Nat.blt pc 73 then
            (bif Nat.beq pc 70 then some (.putfield 217, 10, 37, 0, 0) else none)
          else
            bif Nat.blt pc 74 then
              (bif Nat.beq pc 73 then some (.iconst 1, 0, 0, 0, 1) else none)
            else
              bif Nat.beq pc 74 then some (.ireturn, 0, 0, 1, 0) else none
def i_M_copy : Nat → Option Ent := ab_tab 75 t_M_copy
def h_M_copy (pc : Nat) : Nat × List Bool := bif Nat.beq pc 26 then (1, [true, true, true]) else (0, [])
def s_M_copy (pc : Nat) : List (Int32 × Nat) × Nat := ([], 0)
noncomputable def eV_M_copy : Nat → List AV → Mm → Option Mm := ab_ev []
noncomputable def eI_M_copy : Nat → List AV → Mm → Option (Int32 × Mm) := ab_ev [(137, c_M_flies)]
noncomputable def b_M_copy_0 (f : Nat) (v0 : Nat) (v1 : Int32) (m : Mm) : Option Rs := ab_ex KT none s_M_copy eV_M_copy eI_M_copy i_M_copy h_M_copy f 0 [some (.inr (.inr (28, some v0))), some (.inl v1), none] [] m
noncomputable def b_M_copy_26 (f : Nat) (v0 : Nat) (v1 : Int32) (v2 : Int32) (m : Mm) : Option Rs := ab_ex KT none s_M_copy eV_M_copy eI_M_copy i_M_copy h_M_copy f 26 [some (.inr (.inr (28, some v0))), some (.inl v1), some (.inl v2)] [] m
set_option maxRecDepth 100000 in
set_option maxHeartbeats 4000000 in
theorem b_M_copy_0_eq (f : Nat) (v0 : Nat) (v1 : Int32) (m : Mm) : b_M_copy_0 (f + 1) v0 v1 m =
    ab_let (ab_uI m 84 v0 0 (0 : Int32)) fun m1 =>
    (r_M_flies v0 v1 m1).bind fun z2 =>
    if z2.1 = 0 then
      (ab_bo (0 : Int32)).bind fun y3 => some (.inl (some (.inl y3), z2.2))
    else
      if (z2.2.1 118 v0 0) = (16 : Int32) then
        (ab_bo (0 : Int32)).bind fun y4 => some (.inl (some (.inl y4), z2.2))
      else
        b_M_copy_26 f v0 v1 (0 : Int32) z2.2 := rfl
set_option maxRecDepth 100000 in
set_option maxHeartbeats 4000000 in
theorem b_M_copy_26_eq (f : Nat) (v0 : Nat) (v1 : Int32) (v2 : Int32) (m : Mm) : b_M_copy_26 (f + 1) v0 v1 v2 m =
    if (42 : Int32) ≤ v2 then
      ab_let (ab_uI m 118 v0 0 ((m.1 118 v0 0) + (1 : Int32))) fun m1 =>
      (ab_bo (1 : Int32)).bind fun y2 => some (.inl (some (.inl y2), m1))
    else
      (ab_ix (((42 : Int32) * v1) + v2) 672).bind fun i3 =>
      (ab_ix (((42 : Int32) * (m.1 118 v0 0)) + v2) 672).bind fun i4 =>
      ab_let (ab_uI m 166 (v0 + 34) i4 (m.1 166 (v0 + 34) i3)) fun m5 =>
      ab_let (v2 + (1 : Int32)) fun x6 =>
      b_M_copy_26 f v0 v1 x6 m5 := rfl
noncomputable def r_M_copy : Nat → Int32 → Mm → Option (Int32 × Mm) := ab_seal fun v0 v1 m => ab_rI (b_M_copy_0 50000 v0 v1 m)
theorem r_M_copy_eq (v0 : Nat) (v1 : Int32) (m : Mm) : r_M_copy v0 v1 m = ab_rI (b_M_copy_0 50000 v0 v1 m) := by
  unfold r_M_copy
  rw [ab_seal_eq]
noncomputable def c_M_copy : List AV → Mm → Option (Int32 × Mm) := fun av m => match av with
  | [.inr (.inr (kv0, ov0)), .inl v1] => if kv0 = 28 then (ov0.bind fun v0 => r_M_copy v0 v1 m) else none
  | _ => none
theorem c_M_copy_inv {av : List AV} {m : Mm} {r : Int32 × Mm} (h : c_M_copy av m = some r) : ∃ (v0 : Nat) (v1 : Int32), av = [.inr (.inr (28, some v0)), .inl v1] ∧ r_M_copy v0 v1 m = some r := by
  unfold c_M_copy at h
  split at h
  · rename_i kv0 ov0 v1
    by_cases hkv0 : kv0 = 28
    case neg => rw [if_neg hkv0] at h; cases h
    rw [if_pos hkv0] at h
    subst hkv0
    obtain ⟨v0, hev0, h⟩ := Option.bind_eq_some_iff.mp h
    subst hev0
    exact ⟨v0, v1, rfl, h⟩
  · cases h
def cs_M_copy : List Nat := [7]
set_option maxRecDepth 100000 in
theorem E_M_copy : ∀ (pc : Nat) (q : Ent), i_M_copy pc = some q → ab_E KT CL ab_gW "StreamTransportModel" "copy" (some .boolean) prog_12_method_41_code s_M_copy 3 pc q.1 q.2.1 q.2.2.1 q.2.2.2.1 q.2.2.2.2 := fun pc q hq =>
  ab_Eb_ok lc_M lj_M fl_M (fpn_M "copy") nw_M na_M nq_M (ab_tab_all (t := t_M_copy) (chk := fun pc q => ab_Eb (some .boolean) prog_12_method_41_code s_M_copy 3 LC_M LJ_M FL_M FPn_M NW_M NA_M NQ_M pc q.1 q.2.1 q.2.2.1 q.2.2.2.1 q.2.2.2.2) (by decide +kernel) hq)
set_option maxRecDepth 100000 in
theorem kp_M_copy {av : List AV} {m : Mm} {r : Int32 × Mm} (h : c_M_copy av m = some r) : ab_kp m r.2 := by
  obtain ⟨v0, v1, -, h⟩ := c_M_copy_inv h
  rw [r_M_copy_eq] at h
  have hV : ∀ a av m m', eV_M_copy a av m = some m' → ab_kp m m' := ab_ev_all (P := fun _ m r => ab_kp m r) [] (fun q hq => by cases hq)
  have hI : ∀ a av m q, eI_M_copy a av m = some q → ab_kp m q.2 := ab_ev_all (P := fun _ (m : Mm) (r : Int32 × Mm) => ab_kp m r.2) [(137, c_M_flies)] (List.forall_mem_cons.mpr ⟨fun av m r h => kp_M_flies h, fun q hq => by cases hq⟩)
  exact ab_kprel (ρ := .inl (some (.inl r.1), r.2)) (ab_tab_isn (t := t_M_copy) (by decide +kernel)) hV hI (ab_rI_inv h)
set_option maxRecDepth 100000 in
theorem cl_M_copy (l : Launch) : ∀ (pc : Nat) (q : Ent), i_M_copy pc = some q → ab_inv q.1 = true → ab_CR l KT CL none ab_gW "StreamTransportModel" prog_12_method_41_code 3 1 21 eV_M_copy eI_M_copy pc q := by
  intro pc q hq hi
  have hm : pc ∈ cs_M_copy := ab_tab_cs (t := t_M_copy) (by decide +kernel) hq hi
  simp only [cs_M_copy, List.mem_cons, List.not_mem_nil, or_false] at hm
  rcases hm with rfl
  · cases (Option.some.inj hq : ((.invokevirtual 262, 137, 2, 1, 0) : Ent) = q)
    exact ab_crV (C := "StreamTransportModel") (by decide +kernel) cw_M_flies (ab_gW_in 1248 (by decide +kernel) rfl) is_M_flies sl_M_flies (by decide) (fun av m m' h => by cases h) (fun av m r h => cm_M_flies l h) KT_nd
theorem cw_M_copy : ab_cw y_M_copy prog_12_method_41_code 3 1 (some .boolean) := ⟨ab_gW_in 1305 (by decide +kernel) rfl, ab_gW_in 71 (by decide +kernel) rfl, by decide +kernel, by decide +kernel, by decide +kernel⟩
theorem is_M_copy : Cond.instanceMethod y_M_copy ∈ ab_gW := ab_gW_in 1303 (by decide +kernel) rfl
theorem sl_M_copy : Cond.selects "StreamTransportModel" y_M_copy y_M_copy ∈ ab_gW := ab_gW_in 1304 (by decide +kernel) rfl
set_option maxRecDepth 100000 in
theorem cm_M_copy (l : Launch) {av : List AV} {m : Mm} {r : Int32 × Mm} (h0 : c_M_copy av m = some r) : ∃ (k q : Nat) (av' : List AV) (ci : Nat) (fs : List (Nat × Nat × Nat × Nat)) (z : vw_C), av = .inr (.inr (k, some q)) :: av' ∧ av'.length = 1 ∧ k ≠ 0 ∧ KT[k]? = some (.inl (ci, fs)) ∧ CL[ci]? = some z ∧ z.1 = "StreamTransportModel" ∧ ab_nos av' ∧ ab_Met l KT CL y_M_copy (Cond.code y_M_copy prog_12_method_41_code 3 (some .boolean) :: ab_gW) 1 21 none av m (some (.inl r.1)) r.2 := by
  obtain ⟨v0, v1, hav, h⟩ := c_M_copy_inv h0
  rw [r_M_copy_eq] at h
  have hmo : ab_mo m r.2 := ab_kp_mo (kp_M_copy h0)
  subst hav
  exact ⟨_, _, _, _, _, _, rfl, rfl, by decide, rfl, rfl, rfl, (by intro v hv q e; subst e; simp at hv), ab_met (by decide +kernel) KT_0 KT_nd KT_k3 E_M_copy (cl_M_copy l) hmo (Nat.le_of_ble_eq_true rfl) (ab_rI_inv h) (fun v hv => by cases hv; exact ⟨_, rfl⟩)⟩
/-! StreamTransportModel.spoil(III)Z -/
def y_M_spoil : MethodName := ⟨"StreamTransportModel", "spoil", "(III)Z"⟩
def t_M_spoil (pc : Nat) : Option Ent :=
  bif Nat.blt pc 45 then
    (bif Nat.blt pc 22 then
      (bif Nat.blt pc 10 then
        (bif Nat.blt pc 5 then
          (bif Nat.blt pc 1 then
            (bif Nat.beq pc 0 then some (.aload_n 0, 0, 0, 0, 0) else none)
          else
            bif Nat.blt pc 2 then
              (bif Nat.beq pc 1 then some (.iconst 0, 0, 0, 0, 0) else none)
            else
              bif Nat.beq pc 2 then some (.putfield 135, 10, 3, 0, 0) else none)
        else
          bif Nat.blt pc 6 then
            (bif Nat.beq pc 5 then some (.aload_n 0, 0, 0, 0, 0) else none)
          else
            bif Nat.blt pc 7 then
              (bif Nat.beq pc 6 then some (.iload_n 1, 1, 0, 0, 0) else none)
            else
              bif Nat.beq pc 7 then some (.invokevirtual 262, 137, 2, 1, 0) else none)
      else
        bif Nat.blt pc 15 then
          (bif Nat.blt pc 13 then
            (bif Nat.beq pc 10 then some (.ifCond .eq (35), 45, 0, 0, 0) else none)
          else
            bif Nat.blt pc 14 then
              (bif Nat.beq pc 13 then some (.iload_n 2, 2, 0, 0, 0) else none)
            else
              bif Nat.beq pc 14 then some (.iconst 0, 0, 0, 0, 0) else none)
        else
          bif Nat.blt pc 19 then
            (bif Nat.blt pc 16 then
              (bif Nat.beq pc 15 then some (.aload_n 0, 0, 0, 0, 0) else none)
            else
              bif Nat.beq pc 16 then some (.getfield 110, 10, 38, 1, 0) else none)
          else
            bif Nat.blt pc 21 then
              (bif Nat.beq pc 19 then some (.bipush 42, 0, 0, 0, 42) else none)
            else
              bif Nat.beq pc 21 then some (.iload_n 1, 1, 0, 0, 0) else none)
    else
      bif Nat.blt pc 28 then
        (bif Nat.blt pc 25 then
          (bif Nat.blt pc 23 then
            (bif Nat.beq pc 22 then some (.imul, 0, 0, 0, 0) else none)
          else
            bif Nat.blt pc 24 then
              (bif Nat.beq pc 23 then some (.iconst 1, 0, 0, 0, 1) else none)
            else
              bif Nat.beq pc 24 then some (.iadd, 0, 0, 0, 0) else none)
        else
          bif Nat.blt pc 26 then
            (bif Nat.beq pc 25 then some (.iaload, 0, 0, 0, 0) else none)
          else
            bif Nat.blt pc 27 then
              (bif Nat.beq pc 26 then some (.iconst 1, 0, 0, 0, 1) else none)
            else
              bif Nat.beq pc 27 then some (.isub, 0, 0, 0, 0) else none)
      else
        bif Nat.blt pc 35 then
          (bif Nat.blt pc 31 then
            (bif Nat.beq pc 28 then some (.invokestatic 138, 104, 3, 1, 0) else none)
          else
            bif Nat.blt pc 34 then
              (bif Nat.beq pc 31 then some (.ifCond .eq (14), 45, 0, 0, 0) else none)
            else
              bif Nat.beq pc 34 then some (.iload_n 3, 3, 0, 0, 0) else none)
        else
          bif Nat.blt pc 39 then
            (bif Nat.blt pc 36 then
              (bif Nat.beq pc 35 then some (.iconst 1, 0, 0, 0, 1) else none)
            else
              bif Nat.beq pc 36 then some (.sipush 255, 0, 0, 0, 255) else none)
          else
            bif Nat.blt pc 42 then
              (bif Nat.beq pc 39 then some (.invokestatic 138, 104, 3, 1, 0) else none)
            else
              bif Nat.beq pc 42 then some (.ifCond .ne (5), 47, 0, 0, 0) else none)
  else
    bif Nat.blt pc 63 then
      (bif Nat.blt pc 54 then
        (bif Nat.blt pc 48 then
          (bif Nat.blt pc 46 then
            (bif Nat.beq pc 45 then some (.iconst 0, 0, 0, 0, 0) else none)
          else
            bif Nat.blt pc 47 then
              (bif Nat.beq pc 46 then some (.ireturn, 0, 0, 1, 0) else none)
            else
              bif Nat.beq pc 47 then some (.aload_n 0, 0, 0, 0, 0) else none)
        else
          bif Nat.blt pc 51 then
            (bif Nat.beq pc 48 then some (.getfield 110, 10, 38, 1, 0) else none)
          else
            bif Nat.blt pc 53 then
              (bif Nat.beq pc 51 then some (.bipush 42, 0, 0, 0, 42) else none)
            else
              bif Nat.beq pc 53 then some (.iload_n 1, 1, 0, 0, 0) else none)
      else
        bif Nat.blt pc 57 then
          (bif Nat.blt pc 55 then
            (bif Nat.beq pc 54 then some (.imul, 0, 0, 0, 0) else none)
          else
            bif Nat.blt pc 56 then
              (bif Nat.beq pc 55 then some (.iconst 2, 0, 0, 0, 2) else none)
            else
              bif Nat.beq pc 56 then some (.iadd, 0, 0, 0, 0) else none)
        else
          bif Nat.blt pc 59 then
            (bif Nat.blt pc 58 then
              (bif Nat.beq pc 57 then some (.iload_n 2, 2, 0, 0, 0) else none)
            else
              bif Nat.beq pc 58 then some (.iadd, 0, 0, 0, 0) else none)
          else
            bif Nat.blt pc 60 then
              (bif Nat.beq pc 59 then some (.aload_n 0, 0, 0, 0, 0) else none)
            else
              bif Nat.beq pc 60 then some (.getfield 110, 10, 38, 1, 0) else none)
    else
      bif Nat.blt pc 70 then
        (bif Nat.blt pc 67 then
          (bif Nat.blt pc 65 then
            (bif Nat.beq pc 63 then some (.bipush 42, 0, 0, 0, 42) else none)
          else
            bif Nat.blt pc 66 then
              (bif Nat.beq pc 65 then some (.iload_n 1, 1, 0, 0, 0) else none)
            else
              bif Nat.beq pc 66 then some (.imul, 0, 0, 0, 0) else none)
        else
          bif Nat.blt pc 68 then
            (bif Nat.beq pc 67 then some (.iconst 2, 0, 0, 0, 2) else none)
          else
            bif Nat.blt pc 69 then
              (bif Nat.beq pc 68 then some (.iadd, 0, 0, 0, 0) else none)
            else
              bif Nat.beq pc 69 then some (.iload_n 2, 2, 0, 0, 0) else none)
      else
        bif Nat.blt pc 73 then
          (bif Nat.blt pc 71 then
            (bif Nat.beq pc 70 then some (.iadd, 0, 0, 0, 0) else none)
          else
            bif Nat.blt pc 72 then
              (bif Nat.beq pc 71 then some (.iaload, 0, 0, 0, 0) else none)
            else
              bif Nat.beq pc 72 then some (.iload_n 3, 3, 0, 0, 0) else none)
        else
          bif Nat.blt pc 75 then
            (bif Nat.blt pc 74 then
              (bif Nat.beq pc 73 then some (.ixor, 0, 0, 0, 0) else none)
            else
              bif Nat.beq pc 74 then some (.iastore, 0, 0, 0, 0) else none)
          else
            bif Nat.blt pc 76 then
              (bif Nat.beq pc 75 then some (.iconst 1, 0, 0, 0, 1) else none)
            else
              bif Nat.beq pc 76 then some (.ireturn, 0, 0, 1, 0) else none
def i_M_spoil : Nat → Option Ent := ab_tab 77 t_M_spoil
def h_M_spoil (pc : Nat) : Nat × List Bool := (0, [])
def s_M_spoil (pc : Nat) : List (Int32 × Nat) × Nat := ([], 0)
noncomputable def eV_M_spoil : Nat → List AV → Mm → Option Mm := ab_ev []
noncomputable def eI_M_spoil : Nat → List AV → Mm → Option (Int32 × Mm) := ab_ev [(137, c_M_flies), (104, c_M_in)]
noncomputable def b_M_spoil_0 (f : Nat) (v0 : Nat) (v1 : Int32) (v2 : Int32) (v3 : Int32) (m : Mm) : Option Rs := ab_ex KT none s_M_spoil eV_M_spoil eI_M_spoil i_M_spoil h_M_spoil f 0 [some (.inr (.inr (28, some v0))), some (.inl v1), some (.inl v2), some (.inl v3)] [] m
set_option maxRecDepth 100000 in
set_option maxHeartbeats 4000000 in
theorem b_M_spoil_0_eq (f : Nat) (v0 : Nat) (v1 : Int32) (v2 : Int32) (v3 : Int32) (m : Mm) : b_M_spoil_0 (f + 1) v0 v1 v2 v3 m =
    ab_let (ab_uI m 84 v0 0 (0 : Int32)) fun m1 =>
    (r_M_flies v0 v1 m1).bind fun z2 =>
    if z2.1 = 0 then
      (ab_bo (0 : Int32)).bind fun y3 => some (.inl (some (.inl y3), z2.2))
    else
      (ab_ix (((42 : Int32) * v1) + (1 : Int32)) 672).bind fun i4 =>
      (r_M_in v2 (0 : Int32) ((z2.2.1 166 (v0 + 34) i4) - (1 : Int32)) z2.2).bind fun z5 =>
      if z5.1 = 0 then
        (ab_bo (0 : Int32)).bind fun y6 => some (.inl (some (.inl y6), z5.2))
      else
        (r_M_in v3 (1 : Int32) (255 : Int32) z5.2).bind fun z7 =>
        if z7.1 = 0 then
          (ab_bo (0 : Int32)).bind fun y12 => some (.inl (some (.inl y12), z7.2))
        else
          (ab_ix ((((42 : Int32) * v1) + (2 : Int32)) + v2) 672).bind fun i8 =>
          (ab_ix ((((42 : Int32) * v1) + (2 : Int32)) + v2) 672).bind fun i9 =>
          ab_let (ab_uI z7.2 166 (v0 + 34) i9 ((z7.2.1 166 (v0 + 34) i8) ^^^ v3)) fun m10 =>
          (ab_bo (1 : Int32)).bind fun y11 => some (.inl (some (.inl y11), m10)) := rfl
noncomputable def r_M_spoil : Nat → Int32 → Int32 → Int32 → Mm → Option (Int32 × Mm) := ab_seal fun v0 v1 v2 v3 m => ab_rI (b_M_spoil_0 50000 v0 v1 v2 v3 m)
theorem r_M_spoil_eq (v0 : Nat) (v1 : Int32) (v2 : Int32) (v3 : Int32) (m : Mm) : r_M_spoil v0 v1 v2 v3 m = ab_rI (b_M_spoil_0 50000 v0 v1 v2 v3 m) := by
  unfold r_M_spoil
  rw [ab_seal_eq]
noncomputable def c_M_spoil : List AV → Mm → Option (Int32 × Mm) := fun av m => match av with
  | [.inr (.inr (kv0, ov0)), .inl v1, .inl v2, .inl v3] => if kv0 = 28 then (ov0.bind fun v0 => r_M_spoil v0 v1 v2 v3 m) else none
  | _ => none
theorem c_M_spoil_inv {av : List AV} {m : Mm} {r : Int32 × Mm} (h : c_M_spoil av m = some r) : ∃ (v0 : Nat) (v1 : Int32) (v2 : Int32) (v3 : Int32), av = [.inr (.inr (28, some v0)), .inl v1, .inl v2, .inl v3] ∧ r_M_spoil v0 v1 v2 v3 m = some r := by
  unfold c_M_spoil at h
  split at h
  · rename_i kv0 ov0 v1 v2 v3
    by_cases hkv0 : kv0 = 28
    case neg => rw [if_neg hkv0] at h; cases h
    rw [if_pos hkv0] at h
    subst hkv0
    obtain ⟨v0, hev0, h⟩ := Option.bind_eq_some_iff.mp h
    subst hev0
    exact ⟨v0, v1, v2, v3, rfl, h⟩
  · cases h
def cs_M_spoil : List Nat := [7, 28, 39]
set_option maxRecDepth 100000 in
theorem E_M_spoil : ∀ (pc : Nat) (q : Ent), i_M_spoil pc = some q → ab_E KT CL ab_gW "StreamTransportModel" "spoil" (some .boolean) prog_12_method_42_code s_M_spoil 4 pc q.1 q.2.1 q.2.2.1 q.2.2.2.1 q.2.2.2.2 := fun pc q hq =>
  ab_Eb_ok lc_M lj_M fl_M (fpn_M "spoil") nw_M na_M nq_M (ab_tab_all (t := t_M_spoil) (chk := fun pc q => ab_Eb (some .boolean) prog_12_method_42_code s_M_spoil 4 LC_M LJ_M FL_M FPn_M NW_M NA_M NQ_M pc q.1 q.2.1 q.2.2.1 q.2.2.2.1 q.2.2.2.2) (by decide +kernel) hq)
set_option maxRecDepth 100000 in
theorem kp_M_spoil {av : List AV} {m : Mm} {r : Int32 × Mm} (h : c_M_spoil av m = some r) : ab_kp m r.2 := by
  obtain ⟨v0, v1, v2, v3, -, h⟩ := c_M_spoil_inv h
  rw [r_M_spoil_eq] at h
  have hV : ∀ a av m m', eV_M_spoil a av m = some m' → ab_kp m m' := ab_ev_all (P := fun _ m r => ab_kp m r) [] (fun q hq => by cases hq)
  have hI : ∀ a av m q, eI_M_spoil a av m = some q → ab_kp m q.2 := ab_ev_all (P := fun _ (m : Mm) (r : Int32 × Mm) => ab_kp m r.2) [(137, c_M_flies), (104, c_M_in)] (List.forall_mem_cons.mpr ⟨fun av m r h => kp_M_flies h, List.forall_mem_cons.mpr ⟨fun av m r h => kp_M_in h, fun q hq => by cases hq⟩⟩)
  exact ab_kprel (ρ := .inl (some (.inl r.1), r.2)) (ab_tab_isn (t := t_M_spoil) (by decide +kernel)) hV hI (ab_rI_inv h)
set_option maxRecDepth 100000 in
theorem cl_M_spoil (l : Launch) : ∀ (pc : Nat) (q : Ent), i_M_spoil pc = some q → ab_inv q.1 = true → ab_CR l KT CL none ab_gW "StreamTransportModel" prog_12_method_42_code 4 1 22 eV_M_spoil eI_M_spoil pc q := by
  intro pc q hq hi
  have hm : pc ∈ cs_M_spoil := ab_tab_cs (t := t_M_spoil) (by decide +kernel) hq hi
  simp only [cs_M_spoil, List.mem_cons, List.not_mem_nil, or_false] at hm
  rcases hm with rfl | rfl | rfl
  · cases (Option.some.inj hq : ((.invokevirtual 262, 137, 2, 1, 0) : Ent) = q)
    exact ab_crV (C := "StreamTransportModel") (by decide +kernel) cw_M_flies (ab_gW_in 1248 (by decide +kernel) rfl) is_M_flies sl_M_flies (by decide) (fun av m m' h => by cases h) (fun av m r h => cm_M_flies l h) KT_nd
  · cases (Option.some.inj hq : ((.invokestatic 138, 104, 3, 1, 0) : Ent) = q)
    exact ab_crS (by decide +kernel) cw_M_in (ab_gW_in 1154 (by decide +kernel) rfl) st_M_in (by decide) (fun av m m' h => by cases h) (fun av m r h => cm_M_in l h) KT_nd
  · cases (Option.some.inj hq : ((.invokestatic 138, 104, 3, 1, 0) : Ent) = q)
    exact ab_crS (by decide +kernel) cw_M_in (ab_gW_in 1154 (by decide +kernel) rfl) st_M_in (by decide) (fun av m m' h => by cases h) (fun av m r h => cm_M_in l h) KT_nd
theorem cw_M_spoil : ab_cw y_M_spoil prog_12_method_42_code 4 3 (some .boolean) := ⟨ab_gW_in 1309 (by decide +kernel) rfl, ab_gW_in 71 (by decide +kernel) rfl, by decide +kernel, by decide +kernel, by decide +kernel⟩
theorem is_M_spoil : Cond.instanceMethod y_M_spoil ∈ ab_gW := ab_gW_in 1307 (by decide +kernel) rfl
theorem sl_M_spoil : Cond.selects "StreamTransportModel" y_M_spoil y_M_spoil ∈ ab_gW := ab_gW_in 1308 (by decide +kernel) rfl
set_option maxRecDepth 100000 in
theorem cm_M_spoil (l : Launch) {av : List AV} {m : Mm} {r : Int32 × Mm} (h0 : c_M_spoil av m = some r) : ∃ (k q : Nat) (av' : List AV) (ci : Nat) (fs : List (Nat × Nat × Nat × Nat)) (z : vw_C), av = .inr (.inr (k, some q)) :: av' ∧ av'.length = 3 ∧ k ≠ 0 ∧ KT[k]? = some (.inl (ci, fs)) ∧ CL[ci]? = some z ∧ z.1 = "StreamTransportModel" ∧ ab_nos av' ∧ ab_Met l KT CL y_M_spoil (Cond.code y_M_spoil prog_12_method_42_code 4 (some .boolean) :: ab_gW) 1 22 none av m (some (.inl r.1)) r.2 := by
  obtain ⟨v0, v1, v2, v3, hav, h⟩ := c_M_spoil_inv h0
  rw [r_M_spoil_eq] at h
  have hmo : ab_mo m r.2 := ab_kp_mo (kp_M_spoil h0)
  subst hav
  exact ⟨_, _, _, _, _, _, rfl, rfl, by decide, rfl, rfl, rfl, (by intro v hv q e; subst e; simp at hv), ab_met (by decide +kernel) KT_0 KT_nd KT_k3 E_M_spoil (cl_M_spoil l) hmo (Nat.le_of_ble_eq_true rfl) (ab_rI_inv h) (fun v hv => by cases hv; exact ⟨_, rfl⟩)⟩
/-! StreamTransportModel.raw(IJ)I -/
def y_M_raw : MethodName := ⟨"StreamTransportModel", "raw", "(IJ)I"⟩
def t_M_raw (pc : Nat) : Option Ent :=
  bif Nat.blt pc 41 then
    (bif Nat.blt pc 20 then
      (bif Nat.blt pc 7 then
        (bif Nat.blt pc 2 then
          (bif Nat.blt pc 1 then
            (bif Nat.beq pc 0 then some (.aload_n 0, 0, 0, 0, 0) else none)
          else
            bif Nat.beq pc 1 then some (.iconst 0, 0, 0, 0, 0) else none)
        else
          bif Nat.blt pc 5 then
            (bif Nat.beq pc 2 then some (.putfield 135, 10, 3, 0, 0) else none)
          else
            bif Nat.blt pc 6 then
              (bif Nat.beq pc 5 then some (.iload_n 1, 1, 0, 0, 0) else none)
            else
              bif Nat.beq pc 6 then some (.iconst 1, 0, 0, 0, 1) else none)
      else
        bif Nat.blt pc 15 then
          (bif Nat.blt pc 9 then
            (bif Nat.beq pc 7 then some (.bipush 8, 0, 0, 0, 8) else none)
          else
            bif Nat.blt pc 12 then
              (bif Nat.beq pc 9 then some (.invokestatic 138, 104, 3, 1, 0) else none)
            else
              bif Nat.beq pc 12 then some (.ifCond .eq (14), 26, 0, 0, 0) else none)
        else
          bif Nat.blt pc 16 then
            (bif Nat.beq pc 15 then some (.aload_n 0, 0, 0, 0, 0) else none)
          else
            bif Nat.blt pc 19 then
              (bif Nat.beq pc 16 then some (.getfield 271, 10, 45, 0, 0) else none)
            else
              bif Nat.beq pc 19 then some (.iload_n 1, 1, 0, 0, 0) else none)
    else
      bif Nat.blt pc 29 then
        (bif Nat.blt pc 26 then
          (bif Nat.blt pc 21 then
            (bif Nat.beq pc 20 then some (.iadd, 0, 0, 0, 0) else none)
          else
            bif Nat.blt pc 23 then
              (bif Nat.beq pc 21 then some (.bipush 37, 0, 0, 0, 37) else none)
            else
              bif Nat.beq pc 23 then some (.if_icmp .le (5), 28, 0, 0, 0) else none)
        else
          bif Nat.blt pc 27 then
            (bif Nat.beq pc 26 then some (.iconst (-1), 0, 0, 0, -1) else none)
          else
            bif Nat.blt pc 28 then
              (bif Nat.beq pc 27 then some (.ireturn, 0, 0, 0, 0) else none)
            else
              bif Nat.beq pc 28 then some (.iconst 0, 0, 0, 0, 0) else none)
      else
        bif Nat.blt pc 34 then
          (bif Nat.blt pc 31 then
            (bif Nat.beq pc 29 then some (.istore 4, 4, 0, 0, 0) else none)
          else
            bif Nat.blt pc 33 then
              (bif Nat.beq pc 31 then some (.iload 4, 4, 0, 0, 0) else none)
            else
              bif Nat.beq pc 33 then some (.iload_n 1, 1, 0, 0, 0) else none)
        else
          bif Nat.blt pc 37 then
            (bif Nat.beq pc 34 then some (.if_icmp .ge (33), 67, 0, 0, 0) else none)
          else
            bif Nat.blt pc 38 then
              (bif Nat.beq pc 37 then some (.aload_n 0, 0, 0, 0, 0) else none)
            else
              bif Nat.beq pc 38 then some (.getfield 119, 10, 41, 1, 0) else none)
  else
    bif Nat.blt pc 60 then
      (bif Nat.blt pc 51 then
        (bif Nat.blt pc 47 then
          (bif Nat.blt pc 42 then
            (bif Nat.beq pc 41 then some (.aload_n 0, 0, 0, 0, 0) else none)
          else
            bif Nat.blt pc 45 then
              (bif Nat.beq pc 42 then some (.getfield 271, 10, 45, 0, 0) else none)
            else
              bif Nat.beq pc 45 then some (.iload 4, 4, 0, 0, 0) else none)
        else
          bif Nat.blt pc 48 then
            (bif Nat.beq pc 47 then some (.iadd, 0, 0, 0, 0) else none)
          else
            bif Nat.blt pc 49 then
              (bif Nat.beq pc 48 then some (.lload_n 2, 2, 0, 0, 0) else none)
            else
              bif Nat.beq pc 49 then some (.bipush 8, 0, 0, 0, 8) else none)
      else
        bif Nat.blt pc 55 then
          (bif Nat.blt pc 53 then
            (bif Nat.beq pc 51 then some (.iload 4, 4, 0, 0, 0) else none)
          else
            bif Nat.blt pc 54 then
              (bif Nat.beq pc 53 then some (.imul, 0, 0, 0, 0) else none)
            else
              bif Nat.beq pc 54 then some (.lshr, 0, 0, 0, 0) else none)
        else
          bif Nat.blt pc 58 then
            (bif Nat.beq pc 55 then some (.ldc2_w 150, 255, 0, 0, 0) else none)
          else
            bif Nat.blt pc 59 then
              (bif Nat.beq pc 58 then some (.land, 0, 0, 0, 0) else none)
            else
              bif Nat.beq pc 59 then some (.l2i, 0, 0, 0, 0) else none)
    else
      bif Nat.blt pc 72 then
        (bif Nat.blt pc 67 then
          (bif Nat.blt pc 61 then
            (bif Nat.beq pc 60 then some (.iastore, 0, 0, 0, 0) else none)
          else
            bif Nat.blt pc 64 then
              (bif Nat.beq pc 61 then some (.iinc 4 1, 4, 0, 0, 1) else none)
            else
              bif Nat.beq pc 64 then some (.goto (-33), 31, 0, 0, 0) else none)
        else
          bif Nat.blt pc 68 then
            (bif Nat.beq pc 67 then some (.aload_n 0, 0, 0, 0, 0) else none)
          else
            bif Nat.blt pc 69 then
              (bif Nat.beq pc 68 then some (.aload_n 0, 0, 0, 0, 0) else none)
            else
              bif Nat.beq pc 69 then some (.getfield 271, 10, 45, 0, 0) else none)
      else
        bif Nat.blt pc 77 then
          (bif Nat.blt pc 73 then
            (bif Nat.beq pc 72 then some (.iload_n 1, 1, 0, 0, 0) else none)
          else
            bif Nat.blt pc 74 then
              (bif Nat.beq pc 73 then some (.iadd, 0, 0, 0, 0) else none)
            else
              bif Nat.beq pc 74 then some (.putfield 271, 10, 45, 0, 0) else none)
        else
          bif Nat.blt pc 78 then
            (bif Nat.beq pc 77 then some (.aload_n 0, 0, 0, 0, 0) else none)
          else
            bif Nat.blt pc 81 then
              (bif Nat.beq pc 78 then some (.getfield 271, 10, 45, 0, 0) else none)
            else
              bif Nat.beq pc 81 then some (.ireturn, 0, 0, 0, 0) else none
def i_M_raw : Nat → Option Ent := ab_tab 82 t_M_raw
def h_M_raw (pc : Nat) : Nat × List Bool := bif Nat.beq pc 31 then (1, [true, true, true, false, true]) else (0, [])
def s_M_raw (pc : Nat) : List (Int32 × Nat) × Nat := ([], 0)
noncomputable def eV_M_raw : Nat → List AV → Mm → Option Mm := ab_ev []
noncomputable def eI_M_raw : Nat → List AV → Mm → Option (Int32 × Mm) := ab_ev [(104, c_M_in)]
noncomputable def b_M_raw_0 (f : Nat) (v0 : Nat) (v1 : Int32) (v2 : Int64) (m : Mm) : Option Rs := ab_ex KT none s_M_raw eV_M_raw eI_M_raw i_M_raw h_M_raw f 0 [some (.inr (.inr (28, some v0))), some (.inl v1), some (.inr (.inl v2)), none, none] [] m
noncomputable def b_M_raw_31 (f : Nat) (v0 : Nat) (v1 : Int32) (v2 : Int64) (v4 : Int32) (m : Mm) : Option Rs := ab_ex KT none s_M_raw eV_M_raw eI_M_raw i_M_raw h_M_raw f 31 [some (.inr (.inr (28, some v0))), some (.inl v1), some (.inr (.inl v2)), none, some (.inl v4)] [] m
set_option maxRecDepth 100000 in
set_option maxHeartbeats 4000000 in
theorem b_M_raw_0_eq (f : Nat) (v0 : Nat) (v1 : Int32) (v2 : Int64) (m : Mm) : b_M_raw_0 (f + 1) v0 v1 v2 m =
    ab_let (ab_uI m 84 v0 0 (0 : Int32)) fun m1 =>
    (r_M_in v1 (1 : Int32) (8 : Int32) m1).bind fun z2 =>
    if z2.1 = 0 then
      some (.inl (some (.inl (-1 : Int32)), z2.2))
    else
      if ((z2.2.1 126 v0 0) + v1) ≤ (37 : Int32) then
        b_M_raw_31 f v0 v1 v2 (0 : Int32) z2.2
      else
        some (.inl (some (.inl (-1 : Int32)), z2.2)) := rfl
set_option maxRecDepth 100000 in
set_option maxHeartbeats 4000000 in
theorem b_M_raw_31_eq (f : Nat) (v0 : Nat) (v1 : Int32) (v2 : Int64) (v4 : Int32) (m : Mm) : b_M_raw_31 (f + 1) v0 v1 v2 v4 m =
    if v1 ≤ v4 then
      ab_let (ab_uI m 126 v0 0 ((m.1 126 v0 0) + v1)) fun m1 =>
      some (.inl (some (.inl (m1.1 126 v0 0)), m1))
    else
      (ab_ix ((m.1 126 v0 0) + v4) 37).bind fun i2 =>
      ab_let (ab_uI m 169 (v0 + 37) i2 ((((v2 >>> ((((8 : Int32) * v4)).toInt64 &&& 63)) &&& (Int64.ofNat 255))).toInt32)) fun m3 =>
      ab_let (v4 + (1 : Int32)) fun x4 =>
      b_M_raw_31 f v0 v1 v2 x4 m3 := rfl
noncomputable def r_M_raw : Nat → Int32 → Int64 → Mm → Option (Int32 × Mm) := ab_seal fun v0 v1 v2 m => ab_rI (b_M_raw_0 50000 v0 v1 v2 m)
theorem r_M_raw_eq (v0 : Nat) (v1 : Int32) (v2 : Int64) (m : Mm) : r_M_raw v0 v1 v2 m = ab_rI (b_M_raw_0 50000 v0 v1 v2 m) := by
  unfold r_M_raw
  rw [ab_seal_eq]
noncomputable def c_M_raw : List AV → Mm → Option (Int32 × Mm) := fun av m => match av with
  | [.inr (.inr (kv0, ov0)), .inl v1, .inr (.inl v2)] => if kv0 = 28 then (ov0.bind fun v0 => r_M_raw v0 v1 v2 m) else none
  | _ => none
theorem c_M_raw_inv {av : List AV} {m : Mm} {r : Int32 × Mm} (h : c_M_raw av m = some r) : ∃ (v0 : Nat) (v1 : Int32) (v2 : Int64), av = [.inr (.inr (28, some v0)), .inl v1, .inr (.inl v2)] ∧ r_M_raw v0 v1 v2 m = some r := by
  unfold c_M_raw at h
  split at h
  · rename_i kv0 ov0 v1 v2
    by_cases hkv0 : kv0 = 28
    case neg => rw [if_neg hkv0] at h; cases h
    rw [if_pos hkv0] at h
    subst hkv0
    obtain ⟨v0, hev0, h⟩ := Option.bind_eq_some_iff.mp h
    subst hev0
    exact ⟨v0, v1, v2, rfl, h⟩
  · cases h
def cs_M_raw : List Nat := [9]
set_option maxRecDepth 100000 in
theorem E_M_raw : ∀ (pc : Nat) (q : Ent), i_M_raw pc = some q → ab_E KT CL ab_gW "StreamTransportModel" "raw" (some .int) prog_12_method_43_code s_M_raw 5 pc q.1 q.2.1 q.2.2.1 q.2.2.2.1 q.2.2.2.2 := fun pc q hq =>
  ab_Eb_ok lc_M lj_M fl_M (fpn_M "raw") nw_M na_M nq_M (ab_tab_all (t := t_M_raw) (chk := fun pc q => ab_Eb (some .int) prog_12_method_43_code s_M_raw 5 LC_M LJ_M FL_M FPn_M NW_M NA_M NQ_M pc q.1 q.2.1 q.2.2.1 q.2.2.2.1 q.2.2.2.2) (by decide +kernel) hq)
set_option maxRecDepth 100000 in
theorem kp_M_raw {av : List AV} {m : Mm} {r : Int32 × Mm} (h : c_M_raw av m = some r) : ab_kp m r.2 := by
  obtain ⟨v0, v1, v2, -, h⟩ := c_M_raw_inv h
  rw [r_M_raw_eq] at h
  have hV : ∀ a av m m', eV_M_raw a av m = some m' → ab_kp m m' := ab_ev_all (P := fun _ m r => ab_kp m r) [] (fun q hq => by cases hq)
  have hI : ∀ a av m q, eI_M_raw a av m = some q → ab_kp m q.2 := ab_ev_all (P := fun _ (m : Mm) (r : Int32 × Mm) => ab_kp m r.2) [(104, c_M_in)] (List.forall_mem_cons.mpr ⟨fun av m r h => kp_M_in h, fun q hq => by cases hq⟩)
  exact ab_kprel (ρ := .inl (some (.inl r.1), r.2)) (ab_tab_isn (t := t_M_raw) (by decide +kernel)) hV hI (ab_rI_inv h)
set_option maxRecDepth 100000 in
theorem cl_M_raw (l : Launch) : ∀ (pc : Nat) (q : Ent), i_M_raw pc = some q → ab_inv q.1 = true → ab_CR l KT CL none ab_gW "StreamTransportModel" prog_12_method_43_code 5 1 22 eV_M_raw eI_M_raw pc q := by
  intro pc q hq hi
  have hm : pc ∈ cs_M_raw := ab_tab_cs (t := t_M_raw) (by decide +kernel) hq hi
  simp only [cs_M_raw, List.mem_cons, List.not_mem_nil, or_false] at hm
  rcases hm with rfl
  · cases (Option.some.inj hq : ((.invokestatic 138, 104, 3, 1, 0) : Ent) = q)
    exact ab_crS (by decide +kernel) cw_M_in (ab_gW_in 1154 (by decide +kernel) rfl) st_M_in (by decide) (fun av m m' h => by cases h) (fun av m r h => cm_M_in l h) KT_nd
theorem cw_M_raw : ab_cw y_M_raw prog_12_method_43_code 5 2 (some .int) := ⟨ab_gW_in 1313 (by decide +kernel) rfl, ab_gW_in 71 (by decide +kernel) rfl, by decide +kernel, by decide +kernel, by decide +kernel⟩
theorem is_M_raw : Cond.instanceMethod y_M_raw ∈ ab_gW := ab_gW_in 1311 (by decide +kernel) rfl
theorem sl_M_raw : Cond.selects "StreamTransportModel" y_M_raw y_M_raw ∈ ab_gW := ab_gW_in 1312 (by decide +kernel) rfl
set_option maxRecDepth 100000 in
theorem cm_M_raw (l : Launch) {av : List AV} {m : Mm} {r : Int32 × Mm} (h0 : c_M_raw av m = some r) : ∃ (k q : Nat) (av' : List AV) (ci : Nat) (fs : List (Nat × Nat × Nat × Nat)) (z : vw_C), av = .inr (.inr (k, some q)) :: av' ∧ av'.length = 2 ∧ k ≠ 0 ∧ KT[k]? = some (.inl (ci, fs)) ∧ CL[ci]? = some z ∧ z.1 = "StreamTransportModel" ∧ ab_nos av' ∧ ab_Met l KT CL y_M_raw (Cond.code y_M_raw prog_12_method_43_code 5 (some .int) :: ab_gW) 1 22 none av m (some (.inl r.1)) r.2 := by
  obtain ⟨v0, v1, v2, hav, h⟩ := c_M_raw_inv h0
  rw [r_M_raw_eq] at h
  have hmo : ab_mo m r.2 := ab_kp_mo (kp_M_raw h0)
  subst hav
  exact ⟨_, _, _, _, _, _, rfl, rfl, by decide, rfl, rfl, rfl, (by intro v hv q e; subst e; simp at hv), ab_met (by decide +kernel) KT_0 KT_nd KT_k3 E_M_raw (cl_M_raw l) hmo (Nat.le_of_ble_eq_true rfl) (ab_rI_inv h) (fun v hv => by cases hv; exact ⟨_, rfl⟩)⟩
/-! StreamTransportModel.craft(II)I -/
def y_M_craft : MethodName := ⟨"StreamTransportModel", "craft", "(II)I"⟩
def t_M_craft (pc : Nat) : Option Ent :=
  bif Nat.blt pc 61 then
    (bif Nat.blt pc 33 then
      (bif Nat.blt pc 15 then
        (bif Nat.blt pc 6 then
          (bif Nat.blt pc 2 then
            (bif Nat.blt pc 1 then
              (bif Nat.beq pc 0 then some (.aload_n 0, 0, 0, 0, 0) else none)
            else
              bif Nat.beq pc 1 then some (.iconst 0, 0, 0, 0, 0) else none)
          else
            bif Nat.blt pc 5 then
              (bif Nat.beq pc 2 then some (.putfield 135, 10, 3, 0, 0) else none)
            else
              bif Nat.beq pc 5 then some (.iload_n 1, 1, 0, 0, 0) else none)
        else
          bif Nat.blt pc 8 then
            (bif Nat.blt pc 7 then
              (bif Nat.beq pc 6 then some (.iconst 0, 0, 0, 0, 0) else none)
            else
              bif Nat.beq pc 7 then some (.iconst 1, 0, 0, 0, 1) else none)
          else
            bif Nat.blt pc 11 then
              (bif Nat.beq pc 8 then some (.invokestatic 138, 104, 3, 1, 0) else none)
            else
              bif Nat.blt pc 14 then
                (bif Nat.beq pc 11 then some (.ifCond .eq (14), 25, 0, 0, 0) else none)
              else
                bif Nat.beq pc 14 then some (.iload_n 2, 2, 0, 0, 0) else none)
      else
        bif Nat.blt pc 26 then
          (bif Nat.blt pc 19 then
            (bif Nat.blt pc 16 then
              (bif Nat.beq pc 15 then some (.iconst 0, 0, 0, 0, 0) else none)
            else
              bif Nat.beq pc 16 then some (.sipush 9999, 0, 0, 0, 9999) else none)
          else
            bif Nat.blt pc 22 then
              (bif Nat.beq pc 19 then some (.invokestatic 138, 104, 3, 1, 0) else none)
            else
              bif Nat.blt pc 25 then
                (bif Nat.beq pc 22 then some (.ifCond .ne (5), 27, 0, 0, 0) else none)
              else
                bif Nat.beq pc 25 then some (.iconst (-1), 0, 0, 0, -1) else none)
        else
          bif Nat.blt pc 28 then
            (bif Nat.blt pc 27 then
              (bif Nat.beq pc 26 then some (.ireturn, 0, 0, 0, 0) else none)
            else
              bif Nat.beq pc 27 then some (.aload_n 0, 0, 0, 0, 0) else none)
          else
            bif Nat.blt pc 31 then
              (bif Nat.beq pc 28 then some (.getfield 116, 10, 40, 1, 0) else none)
            else
              bif Nat.blt pc 32 then
                (bif Nat.beq pc 31 then some (.iconst 0, 0, 0, 0, 0) else none)
              else
                bif Nat.beq pc 32 then some (.iload_n 2, 2, 0, 0, 0) else none)
    else
      bif Nat.blt pc 47 then
        (bif Nat.blt pc 38 then
          (bif Nat.blt pc 36 then
            (bif Nat.blt pc 35 then
              (bif Nat.beq pc 33 then some (.bipush 16, 0, 0, 0, 16) else none)
            else
              bif Nat.beq pc 35 then some (.irem, 0, 0, 0, 0) else none)
          else
            bif Nat.blt pc 37 then
              (bif Nat.beq pc 36 then some (.iastore, 0, 0, 0, 0) else none)
            else
              bif Nat.beq pc 37 then some (.iconst 0, 0, 0, 0, 0) else none)
        else
          bif Nat.blt pc 40 then
            (bif Nat.blt pc 39 then
              (bif Nat.beq pc 38 then some (.istore_n 3, 3, 0, 0, 0) else none)
            else
              bif Nat.beq pc 39 then some (.iload_n 3, 3, 0, 0, 0) else none)
          else
            bif Nat.blt pc 41 then
              (bif Nat.beq pc 40 then some (.aload_n 0, 0, 0, 0, 0) else none)
            else
              bif Nat.blt pc 44 then
                (bif Nat.beq pc 41 then some (.getfield 271, 10, 45, 0, 0) else none)
              else
                bif Nat.beq pc 44 then some (.if_icmp .ge (23), 67, 0, 0, 0) else none)
      else
        bif Nat.blt pc 54 then
          (bif Nat.blt pc 51 then
            (bif Nat.blt pc 48 then
              (bif Nat.beq pc 47 then some (.aload_n 0, 0, 0, 0, 0) else none)
            else
              bif Nat.beq pc 48 then some (.getfield 116, 10, 40, 1, 0) else none)
          else
            bif Nat.blt pc 52 then
              (bif Nat.beq pc 51 then some (.iconst 1, 0, 0, 0, 1) else none)
            else
              bif Nat.blt pc 53 then
                (bif Nat.beq pc 52 then some (.iload_n 3, 3, 0, 0, 0) else none)
              else
                bif Nat.beq pc 53 then some (.iadd, 0, 0, 0, 0) else none)
        else
          bif Nat.blt pc 58 then
            (bif Nat.blt pc 55 then
              (bif Nat.beq pc 54 then some (.aload_n 0, 0, 0, 0, 0) else none)
            else
              bif Nat.beq pc 55 then some (.getfield 119, 10, 41, 1, 0) else none)
          else
            bif Nat.blt pc 59 then
              (bif Nat.beq pc 58 then some (.iload_n 3, 3, 0, 0, 0) else none)
            else
              bif Nat.blt pc 60 then
                (bif Nat.beq pc 59 then some (.iaload, 0, 0, 0, 0) else none)
              else
                bif Nat.beq pc 60 then some (.iastore, 0, 0, 0, 0) else none)
  else
    bif Nat.blt pc 92 then
      (bif Nat.blt pc 78 then
        (bif Nat.blt pc 69 then
          (bif Nat.blt pc 67 then
            (bif Nat.blt pc 64 then
              (bif Nat.beq pc 61 then some (.iinc 3 1, 3, 0, 0, 1) else none)
            else
              bif Nat.beq pc 64 then some (.goto (-25), 39, 0, 0, 0) else none)
          else
            bif Nat.blt pc 68 then
              (bif Nat.beq pc 67 then some (.aload_n 0, 0, 0, 0, 0) else none)
            else
              bif Nat.beq pc 68 then some (.aload_n 0, 0, 0, 0, 0) else none)
        else
          bif Nat.blt pc 73 then
            (bif Nat.blt pc 72 then
              (bif Nat.beq pc 69 then some (.getfield 271, 10, 45, 0, 0) else none)
            else
              bif Nat.beq pc 72 then some (.iconst 3, 0, 0, 0, 3) else none)
          else
            bif Nat.blt pc 74 then
              (bif Nat.beq pc 73 then some (.iadd, 0, 0, 0, 0) else none)
            else
              bif Nat.blt pc 77 then
                (bif Nat.beq pc 74 then some (.putfield 223, 10, 42, 0, 0) else none)
              else
                bif Nat.beq pc 77 then some (.aload_n 0, 0, 0, 0, 0) else none)
      else
        bif Nat.blt pc 83 then
          (bif Nat.blt pc 80 then
            (bif Nat.blt pc 79 then
              (bif Nat.beq pc 78 then some (.iconst 1, 0, 0, 0, 1) else none)
            else
              bif Nat.beq pc 79 then some (.iload_n 1, 1, 0, 0, 0) else none)
          else
            bif Nat.blt pc 81 then
              (bif Nat.beq pc 80 then some (.isub, 0, 0, 0, 0) else none)
            else
              bif Nat.blt pc 82 then
                (bif Nat.beq pc 81 then some (.iload_n 2, 2, 0, 0, 0) else none)
              else
                bif Nat.beq pc 82 then some (.aload_n 0, 0, 0, 0, 0) else none)
        else
          bif Nat.blt pc 89 then
            (bif Nat.blt pc 86 then
              (bif Nat.beq pc 83 then some (.getfield 223, 10, 42, 0, 0) else none)
            else
              bif Nat.beq pc 86 then some (.invokevirtual 207, 124, 4, 0, 0) else none)
          else
            bif Nat.blt pc 90 then
              (bif Nat.beq pc 89 then some (.iconst 0, 0, 0, 0, 0) else none)
            else
              bif Nat.blt pc 91 then
                (bif Nat.beq pc 90 then some (.istore_n 3, 3, 0, 0, 0) else none)
              else
                bif Nat.beq pc 91 then some (.iload_n 3, 3, 0, 0, 0) else none)
    else
      bif Nat.blt pc 110 then
        (bif Nat.blt pc 103 then
          (bif Nat.blt pc 96 then
            (bif Nat.blt pc 93 then
              (bif Nat.beq pc 92 then some (.aload_n 0, 0, 0, 0, 0) else none)
            else
              bif Nat.beq pc 93 then some (.getfield 223, 10, 42, 0, 0) else none)
          else
            bif Nat.blt pc 99 then
              (bif Nat.beq pc 96 then some (.if_icmp .ge (21), 117, 0, 0, 0) else none)
            else
              bif Nat.blt pc 100 then
                (bif Nat.beq pc 99 then some (.aload_n 0, 0, 0, 0, 0) else none)
              else
                bif Nat.beq pc 100 then some (.getfield 113, 10, 39, 1, 0) else none)
        else
          bif Nat.blt pc 105 then
            (bif Nat.blt pc 104 then
              (bif Nat.beq pc 103 then some (.iload_n 3, 3, 0, 0, 0) else none)
            else
              bif Nat.beq pc 104 then some (.aload_n 0, 0, 0, 0, 0) else none)
          else
            bif Nat.blt pc 108 then
              (bif Nat.beq pc 105 then some (.getfield 116, 10, 40, 1, 0) else none)
            else
              bif Nat.blt pc 109 then
                (bif Nat.beq pc 108 then some (.iload_n 3, 3, 0, 0, 0) else none)
              else
                bif Nat.beq pc 109 then some (.iaload, 0, 0, 0, 0) else none)
      else
        bif Nat.blt pc 119 then
          (bif Nat.blt pc 114 then
            (bif Nat.blt pc 111 then
              (bif Nat.beq pc 110 then some (.iastore, 0, 0, 0, 0) else none)
            else
              bif Nat.beq pc 111 then some (.iinc 3 1, 3, 0, 0, 1) else none)
          else
            bif Nat.blt pc 117 then
              (bif Nat.beq pc 114 then some (.goto (-23), 91, 0, 0, 0) else none)
            else
              bif Nat.blt pc 118 then
                (bif Nat.beq pc 117 then some (.aload_n 0, 0, 0, 0, 0) else none)
              else
                bif Nat.beq pc 118 then some (.iconst 0, 0, 0, 0, 0) else none)
        else
          bif Nat.blt pc 123 then
            (bif Nat.blt pc 122 then
              (bif Nat.beq pc 119 then some (.putfield 271, 10, 45, 0, 0) else none)
            else
              bif Nat.beq pc 122 then some (.aload_n 0, 0, 0, 0, 0) else none)
          else
            bif Nat.blt pc 124 then
              (bif Nat.beq pc 123 then some (.iload_n 1, 1, 0, 0, 0) else none)
            else
              bif Nat.blt pc 127 then
                (bif Nat.beq pc 124 then some (.invokevirtual 268, 136, 2, 1, 0) else none)
              else
                bif Nat.beq pc 127 then some (.ireturn, 0, 0, 0, 0) else none
def i_M_craft : Nat → Option Ent := ab_tab 128 t_M_craft
def h_M_craft (pc : Nat) : Nat × List Bool := bif Nat.beq pc 39 then (1, [true, true, true, true]) else bif Nat.beq pc 91 then (1, [true, true, false, true]) else (0, [])
def s_M_craft (pc : Nat) : List (Int32 × Nat) × Nat := ([], 0)
noncomputable def eV_M_craft : Nat → List AV → Mm → Option Mm := ab_ev [(124, c_M_seal)]
noncomputable def eI_M_craft : Nat → List AV → Mm → Option (Int32 × Mm) := ab_ev [(104, c_M_in), (136, c_M_receive)]
noncomputable def b_M_craft_0 (f : Nat) (v0 : Nat) (v1 : Int32) (v2 : Int32) (m : Mm) : Option Rs := ab_ex KT none s_M_craft eV_M_craft eI_M_craft i_M_craft h_M_craft f 0 [some (.inr (.inr (28, some v0))), some (.inl v1), some (.inl v2), none] [] m
noncomputable def b_M_craft_39 (f : Nat) (v0 : Nat) (v1 : Int32) (v2 : Int32) (v3 : Int32) (m : Mm) : Option Rs := ab_ex KT none s_M_craft eV_M_craft eI_M_craft i_M_craft h_M_craft f 39 [some (.inr (.inr (28, some v0))), some (.inl v1), some (.inl v2), some (.inl v3)] [] m
noncomputable def b_M_craft_91 (f : Nat) (v0 : Nat) (v1 : Int32) (v3 : Int32) (m : Mm) : Option Rs := ab_ex KT none s_M_craft eV_M_craft eI_M_craft i_M_craft h_M_craft f 91 [some (.inr (.inr (28, some v0))), some (.inl v1), none, some (.inl v3)] [] m
set_option maxRecDepth 100000 in
set_option maxHeartbeats 4000000 in
theorem b_M_craft_0_eq (f : Nat) (v0 : Nat) (v1 : Int32) (v2 : Int32) (m : Mm) : b_M_craft_0 (f + 1) v0 v1 v2 m =
    ab_let (ab_uI m 84 v0 0 (0 : Int32)) fun m1 =>
    (r_M_in v1 (0 : Int32) (1 : Int32) m1).bind fun z2 =>
    if z2.1 = 0 then
      some (.inl (some (.inl (-1 : Int32)), z2.2))
    else
      (r_M_in v2 (0 : Int32) (9999 : Int32) z2.2).bind fun z3 =>
      if z3.1 = 0 then
        some (.inl (some (.inl (-1 : Int32)), z3.2))
      else
        if (16 : Int32) = 0 then none else
        (ab_ix (0 : Int32) 48).bind fun i4 =>
        ab_let (ab_uI z3.2 168 (v0 + 36) i4 (v2 - v2 / (16 : Int32) * (16 : Int32))) fun m5 =>
        b_M_craft_39 f v0 v1 v2 (0 : Int32) m5 := rfl
set_option maxRecDepth 100000 in
set_option maxHeartbeats 4000000 in
theorem b_M_craft_39_eq (f : Nat) (v0 : Nat) (v1 : Int32) (v2 : Int32) (v3 : Int32) (m : Mm) : b_M_craft_39 (f + 1) v0 v1 v2 v3 m =
    if (m.1 126 v0 0) ≤ v3 then
      ab_let (ab_uI m 123 v0 0 ((m.1 126 v0 0) + (3 : Int32))) fun m1 =>
      (r_M_seal v0 ((1 : Int32) - v1) v2 (m1.1 123 v0 0) m1).bind fun m2 =>
      b_M_craft_91 f v0 v1 (0 : Int32) m2
    else
      (ab_ix v3 37).bind fun i3 =>
      (ab_ix ((1 : Int32) + v3) 48).bind fun i4 =>
      ab_let (ab_uI m 168 (v0 + 36) i4 (m.1 169 (v0 + 37) i3)) fun m5 =>
      ab_let (v3 + (1 : Int32)) fun x6 =>
      b_M_craft_39 f v0 v1 v2 x6 m5 := rfl
set_option maxRecDepth 100000 in
set_option maxHeartbeats 4000000 in
theorem b_M_craft_91_eq (f : Nat) (v0 : Nat) (v1 : Int32) (v3 : Int32) (m : Mm) : b_M_craft_91 (f + 1) v0 v1 v3 m =
    if (m.1 123 v0 0) ≤ v3 then
      ab_let (ab_uI m 126 v0 0 (0 : Int32)) fun m1 =>
      (r_M_receive v0 v1 m1).bind fun z2 =>
      some (.inl (some (.inl z2.1), z2.2))
    else
      (ab_ix v3 48).bind fun i3 =>
      (ab_ix v3 48).bind fun i4 =>
      ab_let (ab_uI m 167 (v0 + 35) i4 (m.1 168 (v0 + 36) i3)) fun m5 =>
      ab_let (v3 + (1 : Int32)) fun x6 =>
      b_M_craft_91 f v0 v1 x6 m5 := rfl
noncomputable def r_M_craft : Nat → Int32 → Int32 → Mm → Option (Int32 × Mm) := ab_seal fun v0 v1 v2 m => ab_rI (b_M_craft_0 50000 v0 v1 v2 m)
theorem r_M_craft_eq (v0 : Nat) (v1 : Int32) (v2 : Int32) (m : Mm) : r_M_craft v0 v1 v2 m = ab_rI (b_M_craft_0 50000 v0 v1 v2 m) := by
  unfold r_M_craft
  rw [ab_seal_eq]
noncomputable def c_M_craft : List AV → Mm → Option (Int32 × Mm) := fun av m => match av with
  | [.inr (.inr (kv0, ov0)), .inl v1, .inl v2] => if kv0 = 28 then (ov0.bind fun v0 => r_M_craft v0 v1 v2 m) else none
  | _ => none
theorem c_M_craft_inv {av : List AV} {m : Mm} {r : Int32 × Mm} (h : c_M_craft av m = some r) : ∃ (v0 : Nat) (v1 : Int32) (v2 : Int32), av = [.inr (.inr (28, some v0)), .inl v1, .inl v2] ∧ r_M_craft v0 v1 v2 m = some r := by
  unfold c_M_craft at h
  split at h
  · rename_i kv0 ov0 v1 v2
    by_cases hkv0 : kv0 = 28
    case neg => rw [if_neg hkv0] at h; cases h
    rw [if_pos hkv0] at h
    subst hkv0
    obtain ⟨v0, hev0, h⟩ := Option.bind_eq_some_iff.mp h
    subst hev0
    exact ⟨v0, v1, v2, rfl, h⟩
  · cases h
def cs_M_craft : List Nat := [8, 19, 86, 124]
set_option maxRecDepth 100000 in
theorem E_M_craft : ∀ (pc : Nat) (q : Ent), i_M_craft pc = some q → ab_E KT CL ab_gW "StreamTransportModel" "craft" (some .int) prog_12_method_44_code s_M_craft 4 pc q.1 q.2.1 q.2.2.1 q.2.2.2.1 q.2.2.2.2 := fun pc q hq =>
  ab_Eb_ok lc_M lj_M fl_M (fpn_M "craft") nw_M na_M nq_M (ab_tab_all (t := t_M_craft) (chk := fun pc q => ab_Eb (some .int) prog_12_method_44_code s_M_craft 4 LC_M LJ_M FL_M FPn_M NW_M NA_M NQ_M pc q.1 q.2.1 q.2.2.1 q.2.2.2.1 q.2.2.2.2) (by decide +kernel) hq)
set_option maxRecDepth 100000 in
theorem kp_M_craft {av : List AV} {m : Mm} {r : Int32 × Mm} (h : c_M_craft av m = some r) : ab_kp m r.2 := by
  obtain ⟨v0, v1, v2, -, h⟩ := c_M_craft_inv h
  rw [r_M_craft_eq] at h
  have hV : ∀ a av m m', eV_M_craft a av m = some m' → ab_kp m m' := ab_ev_all (P := fun _ m r => ab_kp m r) [(124, c_M_seal)] (List.forall_mem_cons.mpr ⟨fun av m r h => kp_M_seal h, fun q hq => by cases hq⟩)
  have hI : ∀ a av m q, eI_M_craft a av m = some q → ab_kp m q.2 := ab_ev_all (P := fun _ (m : Mm) (r : Int32 × Mm) => ab_kp m r.2) [(104, c_M_in), (136, c_M_receive)] (List.forall_mem_cons.mpr ⟨fun av m r h => kp_M_in h, List.forall_mem_cons.mpr ⟨fun av m r h => kp_M_receive h, fun q hq => by cases hq⟩⟩)
  exact ab_kprel (ρ := .inl (some (.inl r.1), r.2)) (ab_tab_isn (t := t_M_craft) (by decide +kernel)) hV hI (ab_rI_inv h)
set_option maxRecDepth 100000 in
theorem cl_M_craft (l : Launch) : ∀ (pc : Nat) (q : Ent), i_M_craft pc = some q → ab_inv q.1 = true → ab_CR l KT CL none ab_gW "StreamTransportModel" prog_12_method_44_code 4 5 120 eV_M_craft eI_M_craft pc q := by
  intro pc q hq hi
  have hm : pc ∈ cs_M_craft := ab_tab_cs (t := t_M_craft) (by decide +kernel) hq hi
  simp only [cs_M_craft, List.mem_cons, List.not_mem_nil, or_false] at hm
  rcases hm with rfl | rfl | rfl | rfl
  · cases (Option.some.inj hq : ((.invokestatic 138, 104, 3, 1, 0) : Ent) = q)
    exact ab_crS (by decide +kernel) cw_M_in (ab_gW_in 1154 (by decide +kernel) rfl) st_M_in (by decide) (fun av m m' h => by cases h) (fun av m r h => cm_M_in l h) KT_nd
  · cases (Option.some.inj hq : ((.invokestatic 138, 104, 3, 1, 0) : Ent) = q)
    exact ab_crS (by decide +kernel) cw_M_in (ab_gW_in 1154 (by decide +kernel) rfl) st_M_in (by decide) (fun av m m' h => by cases h) (fun av m r h => cm_M_in l h) KT_nd
  · cases (Option.some.inj hq : ((.invokevirtual 207, 124, 4, 0, 0) : Ent) = q)
    exact ab_crV (C := "StreamTransportModel") (by decide +kernel) cw_M_seal (ab_gW_in 1233 (by decide +kernel) rfl) is_M_seal sl_M_seal (by decide) (fun av m m' h => cm_M_seal l h) (fun av m r h => by cases h) KT_nd
  · cases (Option.some.inj hq : ((.invokevirtual 268, 136, 2, 1, 0) : Ent) = q)
    exact ab_crV (C := "StreamTransportModel") (by decide +kernel) cw_M_receive (ab_gW_in 1256 (by decide +kernel) rfl) is_M_receive sl_M_receive (by decide) (fun av m m' h => by cases h) (fun av m r h => cm_M_receive l h) KT_nd
theorem cw_M_craft : ab_cw y_M_craft prog_12_method_44_code 4 2 (some .int) := ⟨ab_gW_in 1317 (by decide +kernel) rfl, ab_gW_in 71 (by decide +kernel) rfl, by decide +kernel, by decide +kernel, by decide +kernel⟩
theorem is_M_craft : Cond.instanceMethod y_M_craft ∈ ab_gW := ab_gW_in 1315 (by decide +kernel) rfl
theorem sl_M_craft : Cond.selects "StreamTransportModel" y_M_craft y_M_craft ∈ ab_gW := ab_gW_in 1316 (by decide +kernel) rfl
set_option maxRecDepth 100000 in
theorem cm_M_craft (l : Launch) {av : List AV} {m : Mm} {r : Int32 × Mm} (h0 : c_M_craft av m = some r) : ∃ (k q : Nat) (av' : List AV) (ci : Nat) (fs : List (Nat × Nat × Nat × Nat)) (z : vw_C), av = .inr (.inr (k, some q)) :: av' ∧ av'.length = 2 ∧ k ≠ 0 ∧ KT[k]? = some (.inl (ci, fs)) ∧ CL[ci]? = some z ∧ z.1 = "StreamTransportModel" ∧ ab_nos av' ∧ ab_Met l KT CL y_M_craft (Cond.code y_M_craft prog_12_method_44_code 4 (some .int) :: ab_gW) 5 120 none av m (some (.inl r.1)) r.2 := by
  obtain ⟨v0, v1, v2, hav, h⟩ := c_M_craft_inv h0
  rw [r_M_craft_eq] at h
  have hmo : ab_mo m r.2 := ab_kp_mo (kp_M_craft h0)
  subst hav
  exact ⟨_, _, _, _, _, _, rfl, rfl, by decide, rfl, rfl, rfl, (by intro v hv q e; subst e; simp at hv), ab_met (by decide +kernel) KT_0 KT_nd KT_k3 E_M_craft (cl_M_craft l) hmo (Nat.le_of_ble_eq_true rfl) (ab_rI_inv h) (fun v hv => by cases hv; exact ⟨_, rfl⟩)⟩
/-! StreamTransportModel.leastOpen(I)I -/
def y_M_leastOpen : MethodName := ⟨"StreamTransportModel", "leastOpen", "(I)I"⟩
def t_M_leastOpen (pc : Nat) : Option Ent :=
  bif Nat.blt pc 23 then
    (bif Nat.blt pc 11 then
      (bif Nat.blt pc 5 then
        (bif Nat.blt pc 3 then
          (bif Nat.beq pc 0 then some (.sipush 560, 0, 0, 0, 560) else none)
        else
          bif Nat.blt pc 4 then
            (bif Nat.beq pc 3 then some (.iload_n 1, 1, 0, 0, 0) else none)
          else
            bif Nat.beq pc 4 then some (.imul, 0, 0, 0, 0) else none)
      else
        bif Nat.blt pc 7 then
          (bif Nat.blt pc 6 then
            (bif Nat.beq pc 5 then some (.istore_n 2, 2, 0, 0, 0) else none)
          else
            bif Nat.beq pc 6 then some (.iload_n 2, 2, 0, 0, 0) else none)
        else
          bif Nat.blt pc 10 then
            (bif Nat.beq pc 7 then some (.sipush 560, 0, 0, 0, 560) else none)
          else
            bif Nat.beq pc 10 then some (.iload_n 1, 1, 0, 0, 0) else none)
    else
      bif Nat.blt pc 17 then
        (bif Nat.blt pc 13 then
          (bif Nat.blt pc 12 then
            (bif Nat.beq pc 11 then some (.imul, 0, 0, 0, 0) else none)
          else
            bif Nat.beq pc 12 then some (.aload_n 0, 0, 0, 0, 0) else none)
        else
          bif Nat.blt pc 16 then
            (bif Nat.beq pc 13 then some (.getfield 65, 10, 22, 1, 0) else none)
          else
            bif Nat.beq pc 16 then some (.iload_n 1, 1, 0, 0, 0) else none)
      else
        bif Nat.blt pc 19 then
          (bif Nat.blt pc 18 then
            (bif Nat.beq pc 17 then some (.iaload, 0, 0, 0, 0) else none)
          else
            bif Nat.beq pc 18 then some (.iadd, 0, 0, 0, 0) else none)
        else
          bif Nat.blt pc 22 then
            (bif Nat.beq pc 19 then some (.if_icmp .ge (30), 49, 0, 0, 0) else none)
          else
            bif Nat.beq pc 22 then some (.aload_n 0, 0, 0, 0, 0) else none)
  else
    bif Nat.blt pc 37 then
      (bif Nat.blt pc 31 then
        (bif Nat.blt pc 27 then
          (bif Nat.blt pc 26 then
            (bif Nat.beq pc 23 then some (.getfield 98, 10, 33, 1, 0) else none)
          else
            bif Nat.beq pc 26 then some (.iload_n 2, 2, 0, 0, 0) else none)
        else
          bif Nat.blt pc 28 then
            (bif Nat.beq pc 27 then some (.iaload, 0, 0, 0, 0) else none)
          else
            bif Nat.beq pc 28 then some (.ifCond .ne (15), 43, 0, 0, 0) else none)
      else
        bif Nat.blt pc 35 then
          (bif Nat.blt pc 32 then
            (bif Nat.beq pc 31 then some (.aload_n 0, 0, 0, 0, 0) else none)
          else
            bif Nat.beq pc 32 then some (.getfield 101, 10, 34, 1, 0) else none)
        else
          bif Nat.blt pc 36 then
            (bif Nat.beq pc 35 then some (.iload_n 2, 2, 0, 0, 0) else none)
          else
            bif Nat.beq pc 36 then some (.iaload, 0, 0, 0, 0) else none)
    else
      bif Nat.blt pc 43 then
        (bif Nat.blt pc 41 then
          (bif Nat.blt pc 38 then
            (bif Nat.beq pc 37 then some (.iconst 1, 0, 0, 0, 1) else none)
          else
            bif Nat.beq pc 38 then some (.if_icmp .ne (5), 43, 0, 0, 0) else none)
        else
          bif Nat.blt pc 42 then
            (bif Nat.beq pc 41 then some (.iload_n 2, 2, 0, 0, 0) else none)
          else
            bif Nat.beq pc 42 then some (.ireturn, 0, 0, 0, 0) else none)
      else
        bif Nat.blt pc 49 then
          (bif Nat.blt pc 46 then
            (bif Nat.beq pc 43 then some (.iinc 2 1, 2, 0, 0, 1) else none)
          else
            bif Nat.beq pc 46 then some (.goto (-40), 6, 0, 0, 0) else none)
        else
          bif Nat.blt pc 50 then
            (bif Nat.beq pc 49 then some (.iconst (-1), 0, 0, 0, -1) else none)
          else
            bif Nat.beq pc 50 then some (.ireturn, 0, 0, 0, 0) else none
def i_M_leastOpen : Nat → Option Ent := ab_tab 51 t_M_leastOpen
def h_M_leastOpen (pc : Nat) : Nat × List Bool := bif Nat.beq pc 6 then (1, [true, true, true]) else bif Nat.beq pc 43 then (1, [true, true, true]) else (0, [])
def s_M_leastOpen (pc : Nat) : List (Int32 × Nat) × Nat := ([], 0)
noncomputable def eV_M_leastOpen : Nat → List AV → Mm → Option Mm := ab_ev []
noncomputable def eI_M_leastOpen : Nat → List AV → Mm → Option (Int32 × Mm) := ab_ev []
noncomputable def b_M_leastOpen_0 (f : Nat) (v0 : Nat) (v1 : Int32) (m : Mm) : Option Rs := ab_ex KT none s_M_leastOpen eV_M_leastOpen eI_M_leastOpen i_M_leastOpen h_M_leastOpen f 0 [some (.inr (.inr (28, some v0))), some (.inl v1), none] [] m
noncomputable def b_M_leastOpen_6 (f : Nat) (v0 : Nat) (v1 : Int32) (v2 : Int32) (m : Mm) : Option Rs := ab_ex KT none s_M_leastOpen eV_M_leastOpen eI_M_leastOpen i_M_leastOpen h_M_leastOpen f 6 [some (.inr (.inr (28, some v0))), some (.inl v1), some (.inl v2)] [] m
noncomputable def b_M_leastOpen_43 (f : Nat) (v0 : Nat) (v1 : Int32) (v2 : Int32) (m : Mm) : Option Rs := ab_ex KT none s_M_leastOpen eV_M_leastOpen eI_M_leastOpen i_M_leastOpen h_M_leastOpen f 43 [some (.inr (.inr (28, some v0))), some (.inl v1), some (.inl v2)] [] m
set_option maxRecDepth 100000 in
set_option maxHeartbeats 4000000 in
theorem b_M_leastOpen_0_eq (f : Nat) (v0 : Nat) (v1 : Int32) (m : Mm) : b_M_leastOpen_0 (f + 1) v0 v1 m =
    ab_let (((560 : Int32) * v1)) fun x1 =>
    b_M_leastOpen_6 f v0 v1 x1 m := rfl
set_option maxRecDepth 100000 in
set_option maxHeartbeats 4000000 in
theorem b_M_leastOpen_6_eq (f : Nat) (v0 : Nat) (v1 : Int32) (v2 : Int32) (m : Mm) : b_M_leastOpen_6 (f + 1) v0 v1 v2 m =
    (ab_ix v1 2).bind fun i1 =>
    if (((560 : Int32) * v1) + (m.1 151 (v0 + 19) i1)) ≤ v2 then
      some (.inl (some (.inl (-1 : Int32)), m))
    else
      (ab_ix v2 1120).bind fun i2 =>
      if (m.1 162 (v0 + 30) i2) = 0 then
        (ab_ix v2 1120).bind fun i3 =>
        if (m.1 163 (v0 + 31) i3) = (1 : Int32) then
          some (.inl (some (.inl v2), m))
        else
          b_M_leastOpen_43 f v0 v1 v2 m
      else
        b_M_leastOpen_43 f v0 v1 v2 m := rfl
set_option maxRecDepth 100000 in
set_option maxHeartbeats 4000000 in
theorem b_M_leastOpen_43_eq (f : Nat) (v0 : Nat) (v1 : Int32) (v2 : Int32) (m : Mm) : b_M_leastOpen_43 (f + 1) v0 v1 v2 m =
    ab_let (v2 + (1 : Int32)) fun x1 =>
    b_M_leastOpen_6 f v0 v1 x1 m := rfl
noncomputable def r_M_leastOpen : Nat → Int32 → Mm → Option (Int32 × Mm) := ab_seal fun v0 v1 m => ab_rI (b_M_leastOpen_0 50000 v0 v1 m)
theorem r_M_leastOpen_eq (v0 : Nat) (v1 : Int32) (m : Mm) : r_M_leastOpen v0 v1 m = ab_rI (b_M_leastOpen_0 50000 v0 v1 m) := by
  unfold r_M_leastOpen
  rw [ab_seal_eq]
noncomputable def c_M_leastOpen : List AV → Mm → Option (Int32 × Mm) := fun av m => match av with
  | [.inr (.inr (kv0, ov0)), .inl v1] => if kv0 = 28 then (ov0.bind fun v0 => r_M_leastOpen v0 v1 m) else none
  | _ => none
theorem c_M_leastOpen_inv {av : List AV} {m : Mm} {r : Int32 × Mm} (h : c_M_leastOpen av m = some r) : ∃ (v0 : Nat) (v1 : Int32), av = [.inr (.inr (28, some v0)), .inl v1] ∧ r_M_leastOpen v0 v1 m = some r := by
  unfold c_M_leastOpen at h
  split at h
  · rename_i kv0 ov0 v1
    by_cases hkv0 : kv0 = 28
    case neg => rw [if_neg hkv0] at h; cases h
    rw [if_pos hkv0] at h
    subst hkv0
    obtain ⟨v0, hev0, h⟩ := Option.bind_eq_some_iff.mp h
    subst hev0
    exact ⟨v0, v1, rfl, h⟩
  · cases h
def cs_M_leastOpen : List Nat := []
set_option maxRecDepth 100000 in
theorem E_M_leastOpen : ∀ (pc : Nat) (q : Ent), i_M_leastOpen pc = some q → ab_E KT CL ab_gW "StreamTransportModel" "leastOpen" (some .int) prog_12_method_46_code s_M_leastOpen 3 pc q.1 q.2.1 q.2.2.1 q.2.2.2.1 q.2.2.2.2 := fun pc q hq =>
  ab_Eb_ok lc_M lj_M fl_M (fpn_M "leastOpen") nw_M na_M nq_M (ab_tab_all (t := t_M_leastOpen) (chk := fun pc q => ab_Eb (some .int) prog_12_method_46_code s_M_leastOpen 3 LC_M LJ_M FL_M FPn_M NW_M NA_M NQ_M pc q.1 q.2.1 q.2.2.1 q.2.2.2.1 q.2.2.2.2) (by decide +kernel) hq)
set_option maxRecDepth 100000 in
theorem kp_M_leastOpen {av : List AV} {m : Mm} {r : Int32 × Mm} (h : c_M_leastOpen av m = some r) : ab_kp m r.2 := by
  obtain ⟨v0, v1, -, h⟩ := c_M_leastOpen_inv h
  rw [r_M_leastOpen_eq] at h
  have hV : ∀ a av m m', eV_M_leastOpen a av m = some m' → ab_kp m m' := ab_ev_all (P := fun _ m r => ab_kp m r) [] (fun q hq => by cases hq)
  have hI : ∀ a av m q, eI_M_leastOpen a av m = some q → ab_kp m q.2 := ab_ev_all (P := fun _ (m : Mm) (r : Int32 × Mm) => ab_kp m r.2) [] (fun q hq => by cases hq)
  exact ab_kprel (ρ := .inl (some (.inl r.1), r.2)) (ab_tab_isn (t := t_M_leastOpen) (by decide +kernel)) hV hI (ab_rI_inv h)
set_option maxRecDepth 100000 in
theorem cl_M_leastOpen (l : Launch) : ∀ (pc : Nat) (q : Ent), i_M_leastOpen pc = some q → ab_inv q.1 = true → ab_CR l KT CL none ab_gW "StreamTransportModel" prog_12_method_46_code 3 0 0 eV_M_leastOpen eI_M_leastOpen pc q := by
  intro pc q hq hi
  have hm : pc ∈ cs_M_leastOpen := ab_tab_cs (t := t_M_leastOpen) (by decide +kernel) hq hi
  cases hm
theorem cw_M_leastOpen : ab_cw y_M_leastOpen prog_12_method_46_code 3 1 (some .int) := ⟨ab_gW_in 1325 (by decide +kernel) rfl, ab_gW_in 71 (by decide +kernel) rfl, by decide +kernel, by decide +kernel, by decide +kernel⟩
theorem is_M_leastOpen : Cond.instanceMethod y_M_leastOpen ∈ ab_gW := ab_gW_in 1324 (by decide +kernel) rfl
theorem sl_M_leastOpen : Cond.selects "StreamTransportModel" y_M_leastOpen y_M_leastOpen ∈ ab_gW := ab_gW_in 58 (by decide +kernel) rfl
set_option maxRecDepth 100000 in
theorem cm_M_leastOpen (l : Launch) {av : List AV} {m : Mm} {r : Int32 × Mm} (h0 : c_M_leastOpen av m = some r) : ∃ (k q : Nat) (av' : List AV) (ci : Nat) (fs : List (Nat × Nat × Nat × Nat)) (z : vw_C), av = .inr (.inr (k, some q)) :: av' ∧ av'.length = 1 ∧ k ≠ 0 ∧ KT[k]? = some (.inl (ci, fs)) ∧ CL[ci]? = some z ∧ z.1 = "StreamTransportModel" ∧ ab_nos av' ∧ ab_Met l KT CL y_M_leastOpen (Cond.code y_M_leastOpen prog_12_method_46_code 3 (some .int) :: ab_gW) 0 0 none av m (some (.inl r.1)) r.2 := by
  obtain ⟨v0, v1, hav, h⟩ := c_M_leastOpen_inv h0
  rw [r_M_leastOpen_eq] at h
  have hmo : ab_mo m r.2 := ab_kp_mo (kp_M_leastOpen h0)
  subst hav
  exact ⟨_, _, _, _, _, _, rfl, rfl, by decide, rfl, rfl, rfl, (by intro v hv q e; subst e; simp at hv), ab_met (by decide +kernel) KT_0 KT_nd KT_k3 E_M_leastOpen (cl_M_leastOpen l) hmo (Nat.le_of_ble_eq_true rfl) (ab_rI_inv h) (fun v hv => by cases hv; exact ⟨_, rfl⟩)⟩
/-! StreamTransportModel.tick()I -/
def y_M_tick : MethodName := ⟨"StreamTransportModel", "tick", "()I"⟩
def t_M_tick (pc : Nat) : Option Ent :=
  bif Nat.blt pc 64 then
    (bif Nat.blt pc 30 then
      (bif Nat.blt pc 16 then
        (bif Nat.blt pc 7 then
          (bif Nat.blt pc 2 then
            (bif Nat.blt pc 1 then
              (bif Nat.beq pc 0 then some (.aload_n 0, 0, 0, 0, 0) else none)
            else
              bif Nat.beq pc 1 then some (.iconst 0, 0, 0, 0, 0) else none)
          else
            bif Nat.blt pc 5 then
              (bif Nat.beq pc 2 then some (.putfield 135, 10, 3, 0, 0) else none)
            else
              bif Nat.blt pc 6 then
                (bif Nat.beq pc 5 then some (.aload_n 0, 0, 0, 0, 0) else none)
              else
                bif Nat.beq pc 6 then some (.dup, 0, 0, 1, 0) else none)
        else
          bif Nat.blt pc 11 then
            (bif Nat.blt pc 10 then
              (bif Nat.beq pc 7 then some (.getfield 274, 10, 2, 0, 0) else none)
            else
              bif Nat.beq pc 10 then some (.iconst 1, 0, 0, 0, 1) else none)
          else
            bif Nat.blt pc 12 then
              (bif Nat.beq pc 11 then some (.iadd, 0, 0, 0, 0) else none)
            else
              bif Nat.blt pc 15 then
                (bif Nat.beq pc 12 then some (.putfield 274, 10, 2, 0, 0) else none)
              else
                bif Nat.beq pc 15 then some (.iconst 0, 0, 0, 0, 0) else none)
      else
        bif Nat.blt pc 23 then
          (bif Nat.blt pc 18 then
            (bif Nat.blt pc 17 then
              (bif Nat.beq pc 16 then some (.istore_n 1, 1, 0, 0, 0) else none)
            else
              bif Nat.beq pc 17 then some (.iload_n 1, 1, 0, 0, 0) else none)
          else
            bif Nat.blt pc 19 then
              (bif Nat.beq pc 18 then some (.iconst 2, 0, 0, 0, 2) else none)
            else
              bif Nat.blt pc 22 then
                (bif Nat.beq pc 19 then some (.if_icmp .ge (108), 127, 0, 0, 0) else none)
              else
                bif Nat.beq pc 22 then some (.aload_n 0, 0, 0, 0, 0) else none)
        else
          bif Nat.blt pc 27 then
            (bif Nat.blt pc 26 then
              (bif Nat.beq pc 23 then some (.getfield 77, 10, 26, 1, 0) else none)
            else
              bif Nat.beq pc 26 then some (.iload_n 1, 1, 0, 0, 0) else none)
          else
            bif Nat.blt pc 28 then
              (bif Nat.beq pc 27 then some (.dup2, 0, 0, 0, 0) else none)
            else
              bif Nat.blt pc 29 then
                (bif Nat.beq pc 28 then some (.iaload, 0, 0, 0, 0) else none)
              else
                bif Nat.beq pc 29 then some (.iconst 1, 0, 0, 0, 1) else none)
    else
      bif Nat.blt pc 46 then
        (bif Nat.blt pc 37 then
          (bif Nat.blt pc 32 then
            (bif Nat.blt pc 31 then
              (bif Nat.beq pc 30 then some (.iadd, 0, 0, 0, 0) else none)
            else
              bif Nat.beq pc 31 then some (.iastore, 0, 0, 0, 0) else none)
          else
            bif Nat.blt pc 33 then
              (bif Nat.beq pc 32 then some (.aload_n 0, 0, 0, 0, 0) else none)
            else
              bif Nat.blt pc 36 then
                (bif Nat.beq pc 33 then some (.getfield 74, 10, 25, 1, 0) else none)
              else
                bif Nat.beq pc 36 then some (.iload_n 1, 1, 0, 0, 0) else none)
        else
          bif Nat.blt pc 41 then
            (bif Nat.blt pc 38 then
              (bif Nat.beq pc 37 then some (.iaload, 0, 0, 0, 0) else none)
            else
              bif Nat.beq pc 38 then some (.ifCond .ge (11), 49, 0, 0, 0) else none)
          else
            bif Nat.blt pc 42 then
              (bif Nat.beq pc 41 then some (.aload_n 0, 0, 0, 0, 0) else none)
            else
              bif Nat.blt pc 43 then
                (bif Nat.beq pc 42 then some (.iload_n 1, 1, 0, 0, 0) else none)
              else
                bif Nat.beq pc 43 then some (.invokevirtual 277, 145, 2, 1, 0) else none)
      else
        bif Nat.blt pc 55 then
          (bif Nat.blt pc 50 then
            (bif Nat.blt pc 49 then
              (bif Nat.beq pc 46 then some (.goto 4, 50, 0, 0, 0) else none)
            else
              bif Nat.beq pc 49 then some (.iconst (-1), 0, 0, 0, -1) else none)
          else
            bif Nat.blt pc 51 then
              (bif Nat.beq pc 50 then some (.istore_n 2, 2, 0, 0, 0) else none)
            else
              bif Nat.blt pc 52 then
                (bif Nat.beq pc 51 then some (.iload_n 2, 2, 0, 0, 0) else none)
              else
                bif Nat.beq pc 52 then some (.ifCond .lt (69), 121, 0, 0, 0) else none)
        else
          bif Nat.blt pc 60 then
            (bif Nat.blt pc 56 then
              (bif Nat.beq pc 55 then some (.aload_n 0, 0, 0, 0, 0) else none)
            else
              bif Nat.blt pc 59 then
                (bif Nat.beq pc 56 then some (.getfield 77, 10, 26, 1, 0) else none)
              else
                bif Nat.beq pc 59 then some (.iload_n 1, 1, 0, 0, 0) else none)
          else
            bif Nat.blt pc 61 then
              (bif Nat.beq pc 60 then some (.iaload, 0, 0, 0, 0) else none)
            else
              bif Nat.blt pc 63 then
                (bif Nat.beq pc 61 then some (.bipush 6, 0, 0, 0, 6) else none)
              else
                bif Nat.beq pc 63 then some (.aload_n 0, 0, 0, 0, 0) else none)
  else
    bif Nat.blt pc 97 then
      (bif Nat.blt pc 80 then
        (bif Nat.blt pc 73 then
          (bif Nat.blt pc 68 then
            (bif Nat.blt pc 67 then
              (bif Nat.beq pc 64 then some (.getfield 80, 10, 27, 1, 0) else none)
            else
              bif Nat.beq pc 67 then some (.iload_n 1, 1, 0, 0, 0) else none)
          else
            bif Nat.blt pc 69 then
              (bif Nat.beq pc 68 then some (.iaload, 0, 0, 0, 0) else none)
            else
              bif Nat.blt pc 70 then
                (bif Nat.beq pc 69 then some (.ishl, 0, 0, 0, 0) else none)
              else
                bif Nat.beq pc 70 then some (.if_icmp .lt (51), 121, 0, 0, 0) else none)
        else
          bif Nat.blt pc 75 then
            (bif Nat.blt pc 74 then
              (bif Nat.beq pc 73 then some (.aload_n 0, 0, 0, 0, 0) else none)
            else
              bif Nat.beq pc 74 then some (.iload_n 1, 1, 0, 0, 0) else none)
          else
            bif Nat.blt pc 76 then
              (bif Nat.beq pc 75 then some (.iload_n 2, 2, 0, 0, 0) else none)
            else
              bif Nat.blt pc 79 then
                (bif Nat.beq pc 76 then some (.invokevirtual 259, 128, 3, 0, 0) else none)
              else
                bif Nat.beq pc 79 then some (.aload_n 0, 0, 0, 0, 0) else none)
      else
        bif Nat.blt pc 87 then
          (bif Nat.blt pc 84 then
            (bif Nat.blt pc 83 then
              (bif Nat.beq pc 80 then some (.getfield 92, 10, 31, 1, 0) else none)
            else
              bif Nat.beq pc 83 then some (.iload_n 1, 1, 0, 0, 0) else none)
          else
            bif Nat.blt pc 85 then
              (bif Nat.beq pc 84 then some (.iconst 1, 0, 0, 0, 1) else none)
            else
              bif Nat.blt pc 86 then
                (bif Nat.beq pc 85 then some (.bastore, 0, 0, 0, 0) else none)
              else
                bif Nat.beq pc 86 then some (.aload_n 0, 0, 0, 0, 0) else none)
        else
          bif Nat.blt pc 92 then
            (bif Nat.blt pc 90 then
              (bif Nat.beq pc 87 then some (.getfield 80, 10, 27, 1, 0) else none)
            else
              bif Nat.blt pc 91 then
                (bif Nat.beq pc 90 then some (.iload_n 1, 1, 0, 0, 0) else none)
              else
                bif Nat.beq pc 91 then some (.aload_n 0, 0, 0, 0, 0) else none)
          else
            bif Nat.blt pc 95 then
              (bif Nat.beq pc 92 then some (.getfield 80, 10, 27, 1, 0) else none)
            else
              bif Nat.blt pc 96 then
                (bif Nat.beq pc 95 then some (.iload_n 1, 1, 0, 0, 0) else none)
              else
                bif Nat.beq pc 96 then some (.iaload, 0, 0, 0, 0) else none)
    else
      bif Nat.blt pc 113 then
        (bif Nat.blt pc 106 then
          (bif Nat.blt pc 101 then
            (bif Nat.blt pc 98 then
              (bif Nat.beq pc 97 then some (.iconst 3, 0, 0, 0, 3) else none)
            else
              bif Nat.beq pc 98 then some (.if_icmp .ge (14), 112, 0, 0, 0) else none)
          else
            bif Nat.blt pc 102 then
              (bif Nat.beq pc 101 then some (.aload_n 0, 0, 0, 0, 0) else none)
            else
              bif Nat.blt pc 105 then
                (bif Nat.beq pc 102 then some (.getfield 80, 10, 27, 1, 0) else none)
              else
                bif Nat.beq pc 105 then some (.iload_n 1, 1, 0, 0, 0) else none)
        else
          bif Nat.blt pc 108 then
            (bif Nat.blt pc 107 then
              (bif Nat.beq pc 106 then some (.iaload, 0, 0, 0, 0) else none)
            else
              bif Nat.beq pc 107 then some (.iconst 1, 0, 0, 0, 1) else none)
          else
            bif Nat.blt pc 109 then
              (bif Nat.beq pc 108 then some (.iadd, 0, 0, 0, 0) else none)
            else
              bif Nat.blt pc 112 then
                (bif Nat.beq pc 109 then some (.goto 4, 113, 0, 0, 0) else none)
              else
                bif Nat.beq pc 112 then some (.iconst 3, 0, 0, 0, 3) else none)
      else
        bif Nat.blt pc 120 then
          (bif Nat.blt pc 115 then
            (bif Nat.blt pc 114 then
              (bif Nat.beq pc 113 then some (.iastore, 0, 0, 0, 0) else none)
            else
              bif Nat.beq pc 114 then some (.aload_n 0, 0, 0, 0, 0) else none)
          else
            bif Nat.blt pc 118 then
              (bif Nat.beq pc 115 then some (.getfield 77, 10, 26, 1, 0) else none)
            else
              bif Nat.blt pc 119 then
                (bif Nat.beq pc 118 then some (.iload_n 1, 1, 0, 0, 0) else none)
              else
                bif Nat.beq pc 119 then some (.iconst 0, 0, 0, 0, 0) else none)
        else
          bif Nat.blt pc 127 then
            (bif Nat.blt pc 121 then
              (bif Nat.beq pc 120 then some (.iastore, 0, 0, 0, 0) else none)
            else
              bif Nat.blt pc 124 then
                (bif Nat.beq pc 121 then some (.iinc 1 1, 1, 0, 0, 1) else none)
              else
                bif Nat.beq pc 124 then some (.goto (-107), 17, 0, 0, 0) else none)
          else
            bif Nat.blt pc 128 then
              (bif Nat.beq pc 127 then some (.aload_n 0, 0, 0, 0, 0) else none)
            else
              bif Nat.blt pc 131 then
                (bif Nat.beq pc 128 then some (.getfield 274, 10, 2, 0, 0) else none)
              else
                bif Nat.beq pc 131 then some (.ireturn, 0, 0, 0, 0) else none
def i_M_tick : Nat → Option Ent := ab_tab 132 t_M_tick
def h_M_tick (pc : Nat) : Nat × List Bool := bif Nat.beq pc 17 then (1, [true, true, false]) else bif Nat.beq pc 50 then (1, [true, true, false]) else bif Nat.beq pc 113 then (1, [true, true, false]) else bif Nat.beq pc 121 then (1, [true, true, false]) else (0, [])
def s_M_tick (pc : Nat) : List (Int32 × Nat) × Nat := ([], 0)
noncomputable def eV_M_tick : Nat → List AV → Mm → Option Mm := ab_ev [(128, c_M_loses)]
noncomputable def eI_M_tick : Nat → List AV → Mm → Option (Int32 × Mm) := ab_ev [(145, c_M_leastOpen)]
noncomputable def b_M_tick_0 (f : Nat) (v0 : Nat) (m : Mm) : Option Rs := ab_ex KT none s_M_tick eV_M_tick eI_M_tick i_M_tick h_M_tick f 0 [some (.inr (.inr (28, some v0))), none, none] [] m
noncomputable def b_M_tick_17 (f : Nat) (v0 : Nat) (v1 : Int32) (m : Mm) : Option Rs := ab_ex KT none s_M_tick eV_M_tick eI_M_tick i_M_tick h_M_tick f 17 [some (.inr (.inr (28, some v0))), some (.inl v1), none] [] m
noncomputable def b_M_tick_50 (f : Nat) (v0 : Nat) (v1 : Int32) (u0 : Int32) (m : Mm) : Option Rs := ab_ex KT none s_M_tick eV_M_tick eI_M_tick i_M_tick h_M_tick f 50 [some (.inr (.inr (28, some v0))), some (.inl v1), none] [.inl u0] m
noncomputable def b_M_tick_113 (f : Nat) (v0 : Nat) (v1 : Int32) (u0 : Nat) (u1 : Int32) (u2 : Int32) (m : Mm) : Option Rs := ab_ex KT none s_M_tick eV_M_tick eI_M_tick i_M_tick h_M_tick f 113 [some (.inr (.inr (28, some v0))), some (.inl v1), none] [.inl u2, .inl u1, .inr (.inr (52, some u0))] m
noncomputable def b_M_tick_121 (f : Nat) (v0 : Nat) (v1 : Int32) (m : Mm) : Option Rs := ab_ex KT none s_M_tick eV_M_tick eI_M_tick i_M_tick h_M_tick f 121 [some (.inr (.inr (28, some v0))), some (.inl v1), none] [] m
set_option maxRecDepth 100000 in
set_option maxHeartbeats 4000000 in
theorem b_M_tick_0_eq (f : Nat) (v0 : Nat) (m : Mm) : b_M_tick_0 (f + 1) v0 m =
    ab_let (ab_uI m 84 v0 0 (0 : Int32)) fun m1 =>
    ab_let (ab_uI m1 83 v0 0 ((m1.1 83 v0 0) + (1 : Int32))) fun m2 =>
    b_M_tick_17 f v0 (0 : Int32) m2 := rfl
set_option maxRecDepth 100000 in
set_option maxHeartbeats 4000000 in
theorem b_M_tick_17_eq (f : Nat) (v0 : Nat) (v1 : Int32) (m : Mm) : b_M_tick_17 (f + 1) v0 v1 m =
    if (2 : Int32) ≤ v1 then
      some (.inl (some (.inl (m.1 83 v0 0)), m))
    else
      (ab_ix v1 2).bind fun i1 =>
      (ab_ix v1 2).bind fun i2 =>
      ab_let (ab_uI m 155 (v0 + 23) i2 ((m.1 155 (v0 + 23) i1) + (1 : Int32))) fun m3 =>
      (ab_ix v1 2).bind fun i4 =>
      if 0 ≤ (m3.1 154 (v0 + 22) i4) then
        b_M_tick_50 f v0 v1 (-1 : Int32) m3
      else
        (r_M_leastOpen v0 v1 m3).bind fun z5 =>
        b_M_tick_50 f v0 v1 z5.1 z5.2 := rfl
set_option maxRecDepth 100000 in
set_option maxHeartbeats 4000000 in
theorem b_M_tick_50_eq (f : Nat) (v0 : Nat) (v1 : Int32) (u0 : Int32) (m : Mm) : b_M_tick_50 (f + 1) v0 v1 u0 m =
    if u0 < 0 then
      b_M_tick_121 f v0 v1 m
    else
      (ab_ix v1 2).bind fun i1 =>
      (ab_ix v1 2).bind fun i2 =>
      if (m.1 155 (v0 + 23) i1) < ((6 : Int32) <<< ((m.1 156 (v0 + 24) i2) &&& 31)) then
        b_M_tick_121 f v0 v1 m
      else
        (r_M_loses v0 v1 u0 m).bind fun m3 =>
        (ab_ix v1 2).bind fun i4 =>
        (ab_bo (1 : Int32)).bind fun y6 =>
        ab_let (ab_uI m3 160 (v0 + 28) i4 y6) fun m5 =>
        (ab_ix v1 2).bind fun i7 =>
        if (3 : Int32) ≤ (m5.1 156 (v0 + 24) i7) then
          b_M_tick_113 f v0 v1 (v0 + 24) v1 (3 : Int32) m5
        else
          (ab_ix v1 2).bind fun i8 =>
          b_M_tick_113 f v0 v1 (v0 + 24) v1 ((m5.1 156 (v0 + 24) i8) + (1 : Int32)) m5 := rfl
set_option maxRecDepth 100000 in
set_option maxHeartbeats 4000000 in
theorem b_M_tick_113_eq (f : Nat) (v0 : Nat) (v1 : Int32) (u0 : Nat) (u1 : Int32) (u2 : Int32) (m : Mm) : b_M_tick_113 (f + 1) v0 v1 u0 u1 u2 m =
    (ab_ix u1 2).bind fun i1 =>
    ab_let (ab_uI m 156 u0 i1 u2) fun m2 =>
    (ab_ix v1 2).bind fun i3 =>
    ab_let (ab_uI m2 155 (v0 + 23) i3 (0 : Int32)) fun m4 =>
    b_M_tick_121 f v0 v1 m4 := rfl
set_option maxRecDepth 100000 in
set_option maxHeartbeats 4000000 in
theorem b_M_tick_121_eq (f : Nat) (v0 : Nat) (v1 : Int32) (m : Mm) : b_M_tick_121 (f + 1) v0 v1 m =
    ab_let (v1 + (1 : Int32)) fun x1 =>
    b_M_tick_17 f v0 x1 m := rfl
noncomputable def r_M_tick : Nat → Mm → Option (Int32 × Mm) := ab_seal fun v0 m => ab_rI (b_M_tick_0 50000 v0 m)
theorem r_M_tick_eq (v0 : Nat) (m : Mm) : r_M_tick v0 m = ab_rI (b_M_tick_0 50000 v0 m) := by
  unfold r_M_tick
  rw [ab_seal_eq]
noncomputable def c_M_tick : List AV → Mm → Option (Int32 × Mm) := fun av m => match av with
  | [.inr (.inr (kv0, ov0))] => if kv0 = 28 then (ov0.bind fun v0 => r_M_tick v0 m) else none
  | _ => none
theorem c_M_tick_inv {av : List AV} {m : Mm} {r : Int32 × Mm} (h : c_M_tick av m = some r) : ∃ (v0 : Nat), av = [.inr (.inr (28, some v0))] ∧ r_M_tick v0 m = some r := by
  unfold c_M_tick at h
  split at h
  · rename_i kv0 ov0
    by_cases hkv0 : kv0 = 28
    case neg => rw [if_neg hkv0] at h; cases h
    rw [if_pos hkv0] at h
    subst hkv0
    obtain ⟨v0, hev0, h⟩ := Option.bind_eq_some_iff.mp h
    subst hev0
    exact ⟨v0, rfl, h⟩
  · cases h
def cs_M_tick : List Nat := [43, 76]
set_option maxRecDepth 100000 in
theorem E_M_tick : ∀ (pc : Nat) (q : Ent), i_M_tick pc = some q → ab_E KT CL ab_gW "StreamTransportModel" "tick" (some .int) prog_12_method_45_code s_M_tick 3 pc q.1 q.2.1 q.2.2.1 q.2.2.2.1 q.2.2.2.2 := fun pc q hq =>
  ab_Eb_ok lc_M lj_M fl_M (fpn_M "tick") nw_M na_M nq_M (ab_tab_all (t := t_M_tick) (chk := fun pc q => ab_Eb (some .int) prog_12_method_45_code s_M_tick 3 LC_M LJ_M FL_M FPn_M NW_M NA_M NQ_M pc q.1 q.2.1 q.2.2.1 q.2.2.2.1 q.2.2.2.2) (by decide +kernel) hq)
set_option maxRecDepth 100000 in
theorem kp_M_tick {av : List AV} {m : Mm} {r : Int32 × Mm} (h : c_M_tick av m = some r) : ab_kp m r.2 := by
  obtain ⟨v0, -, h⟩ := c_M_tick_inv h
  rw [r_M_tick_eq] at h
  have hV : ∀ a av m m', eV_M_tick a av m = some m' → ab_kp m m' := ab_ev_all (P := fun _ m r => ab_kp m r) [(128, c_M_loses)] (List.forall_mem_cons.mpr ⟨fun av m r h => kp_M_loses h, fun q hq => by cases hq⟩)
  have hI : ∀ a av m q, eI_M_tick a av m = some q → ab_kp m q.2 := ab_ev_all (P := fun _ (m : Mm) (r : Int32 × Mm) => ab_kp m r.2) [(145, c_M_leastOpen)] (List.forall_mem_cons.mpr ⟨fun av m r h => kp_M_leastOpen h, fun q hq => by cases hq⟩)
  exact ab_kprel (ρ := .inl (some (.inl r.1), r.2)) (ab_tab_isn (t := t_M_tick) (by decide +kernel)) hV hI (ab_rI_inv h)
set_option maxRecDepth 100000 in
theorem cl_M_tick (l : Launch) : ∀ (pc : Nat) (q : Ent), i_M_tick pc = some q → ab_inv q.1 = true → ab_CR l KT CL none ab_gW "StreamTransportModel" prog_12_method_45_code 3 1 26 eV_M_tick eI_M_tick pc q := by
  intro pc q hq hi
  have hm : pc ∈ cs_M_tick := ab_tab_cs (t := t_M_tick) (by decide +kernel) hq hi
  simp only [cs_M_tick, List.mem_cons, List.not_mem_nil, or_false] at hm
  rcases hm with rfl | rfl
  · cases (Option.some.inj hq : ((.invokevirtual 277, 145, 2, 1, 0) : Ent) = q)
    exact ab_crV (C := "StreamTransportModel") (by decide +kernel) cw_M_leastOpen (ab_gW_in 1322 (by decide +kernel) rfl) is_M_leastOpen sl_M_leastOpen (by decide) (fun av m m' h => by cases h) (fun av m r h => cm_M_leastOpen l h) KT_nd
  · cases (Option.some.inj hq : ((.invokevirtual 259, 128, 3, 0, 0) : Ent) = q)
    exact ab_crV (C := "StreamTransportModel") (by decide +kernel) cw_M_loses (ab_gW_in 1282 (by decide +kernel) rfl) is_M_loses sl_M_loses (by decide) (fun av m m' h => cm_M_loses l h) (fun av m r h => by cases h) KT_nd
theorem cw_M_tick : ab_cw y_M_tick prog_12_method_45_code 3 0 (some .int) := ⟨ab_gW_in 1321 (by decide +kernel) rfl, ab_gW_in 71 (by decide +kernel) rfl, by decide +kernel, by decide +kernel, by decide +kernel⟩
theorem is_M_tick : Cond.instanceMethod y_M_tick ∈ ab_gW := ab_gW_in 1319 (by decide +kernel) rfl
theorem sl_M_tick : Cond.selects "StreamTransportModel" y_M_tick y_M_tick ∈ ab_gW := ab_gW_in 1320 (by decide +kernel) rfl
set_option maxRecDepth 100000 in
theorem cm_M_tick (l : Launch) {av : List AV} {m : Mm} {r : Int32 × Mm} (h0 : c_M_tick av m = some r) : ∃ (k q : Nat) (av' : List AV) (ci : Nat) (fs : List (Nat × Nat × Nat × Nat)) (z : vw_C), av = .inr (.inr (k, some q)) :: av' ∧ av'.length = 0 ∧ k ≠ 0 ∧ KT[k]? = some (.inl (ci, fs)) ∧ CL[ci]? = some z ∧ z.1 = "StreamTransportModel" ∧ ab_nos av' ∧ ab_Met l KT CL y_M_tick (Cond.code y_M_tick prog_12_method_45_code 3 (some .int) :: ab_gW) 1 26 none av m (some (.inl r.1)) r.2 := by
  obtain ⟨v0, hav, h⟩ := c_M_tick_inv h0
  rw [r_M_tick_eq] at h
  have hmo : ab_mo m r.2 := ab_kp_mo (kp_M_tick h0)
  subst hav
  exact ⟨_, _, _, _, _, _, rfl, rfl, by decide, rfl, rfl, rfl, (by intro v hv q e; subst e; simp at hv), ab_met (by decide +kernel) KT_0 KT_nd KT_k3 E_M_tick (cl_M_tick l) hmo (Nat.le_of_ble_eq_true rfl) (ab_rI_inv h) (fun v hv => by cases hv; exact ⟨_, rfl⟩)⟩
/-! StreamTransportModel.packets()I -/
def y_M_packets : MethodName := ⟨"StreamTransportModel", "packets", "()I"⟩
def t_M_packets (pc : Nat) : Option Ent :=
  bif Nat.blt pc 5 then
    (bif Nat.blt pc 1 then
      (bif Nat.beq pc 0 then some (.aload_n 0, 0, 0, 0, 0) else none)
    else
      bif Nat.blt pc 2 then
        (bif Nat.beq pc 1 then some (.iconst 0, 0, 0, 0, 0) else none)
      else
        bif Nat.beq pc 2 then some (.putfield 135, 10, 3, 0, 0) else none)
  else
    bif Nat.blt pc 6 then
      (bif Nat.beq pc 5 then some (.aload_n 0, 0, 0, 0, 0) else none)
    else
      bif Nat.blt pc 9 then
        (bif Nat.beq pc 6 then some (.getfield 217, 10, 37, 0, 0) else none)
      else
        bif Nat.beq pc 9 then some (.ireturn, 0, 0, 0, 0) else none
def i_M_packets : Nat → Option Ent := ab_tab 10 t_M_packets
def h_M_packets (pc : Nat) : Nat × List Bool := (0, [])
def s_M_packets (pc : Nat) : List (Int32 × Nat) × Nat := ([], 0)
noncomputable def eV_M_packets : Nat → List AV → Mm → Option Mm := ab_ev []
noncomputable def eI_M_packets : Nat → List AV → Mm → Option (Int32 × Mm) := ab_ev []
noncomputable def b_M_packets_0 (f : Nat) (v0 : Nat) (m : Mm) : Option Rs := ab_ex KT none s_M_packets eV_M_packets eI_M_packets i_M_packets h_M_packets f 0 [some (.inr (.inr (28, some v0)))] [] m
set_option maxRecDepth 100000 in
set_option maxHeartbeats 4000000 in
theorem b_M_packets_0_eq (f : Nat) (v0 : Nat) (m : Mm) : b_M_packets_0 (f + 1) v0 m =
    ab_let (ab_uI m 84 v0 0 (0 : Int32)) fun m1 =>
    some (.inl (some (.inl (m1.1 118 v0 0)), m1)) := rfl
noncomputable def r_M_packets : Nat → Mm → Option (Int32 × Mm) := ab_seal fun v0 m => ab_rI (b_M_packets_0 50000 v0 m)
theorem r_M_packets_eq (v0 : Nat) (m : Mm) : r_M_packets v0 m = ab_rI (b_M_packets_0 50000 v0 m) := by
  unfold r_M_packets
  rw [ab_seal_eq]
noncomputable def c_M_packets : List AV → Mm → Option (Int32 × Mm) := fun av m => match av with
  | [.inr (.inr (kv0, ov0))] => if kv0 = 28 then (ov0.bind fun v0 => r_M_packets v0 m) else none
  | _ => none
theorem c_M_packets_inv {av : List AV} {m : Mm} {r : Int32 × Mm} (h : c_M_packets av m = some r) : ∃ (v0 : Nat), av = [.inr (.inr (28, some v0))] ∧ r_M_packets v0 m = some r := by
  unfold c_M_packets at h
  split at h
  · rename_i kv0 ov0
    by_cases hkv0 : kv0 = 28
    case neg => rw [if_neg hkv0] at h; cases h
    rw [if_pos hkv0] at h
    subst hkv0
    obtain ⟨v0, hev0, h⟩ := Option.bind_eq_some_iff.mp h
    subst hev0
    exact ⟨v0, rfl, h⟩
  · cases h
def cs_M_packets : List Nat := []
set_option maxRecDepth 100000 in
theorem E_M_packets : ∀ (pc : Nat) (q : Ent), i_M_packets pc = some q → ab_E KT CL ab_gW "StreamTransportModel" "packets" (some .int) prog_12_method_47_code s_M_packets 1 pc q.1 q.2.1 q.2.2.1 q.2.2.2.1 q.2.2.2.2 := fun pc q hq =>
  ab_Eb_ok lc_M lj_M fl_M (fpn_M "packets") nw_M na_M nq_M (ab_tab_all (t := t_M_packets) (chk := fun pc q => ab_Eb (some .int) prog_12_method_47_code s_M_packets 1 LC_M LJ_M FL_M FPn_M NW_M NA_M NQ_M pc q.1 q.2.1 q.2.2.1 q.2.2.2.1 q.2.2.2.2) (by decide +kernel) hq)
set_option maxRecDepth 100000 in
theorem kp_M_packets {av : List AV} {m : Mm} {r : Int32 × Mm} (h : c_M_packets av m = some r) : ab_kp m r.2 := by
  obtain ⟨v0, -, h⟩ := c_M_packets_inv h
  rw [r_M_packets_eq] at h
  have hV : ∀ a av m m', eV_M_packets a av m = some m' → ab_kp m m' := ab_ev_all (P := fun _ m r => ab_kp m r) [] (fun q hq => by cases hq)
  have hI : ∀ a av m q, eI_M_packets a av m = some q → ab_kp m q.2 := ab_ev_all (P := fun _ (m : Mm) (r : Int32 × Mm) => ab_kp m r.2) [] (fun q hq => by cases hq)
  exact ab_kprel (ρ := .inl (some (.inl r.1), r.2)) (ab_tab_isn (t := t_M_packets) (by decide +kernel)) hV hI (ab_rI_inv h)
set_option maxRecDepth 100000 in
theorem cl_M_packets (l : Launch) : ∀ (pc : Nat) (q : Ent), i_M_packets pc = some q → ab_inv q.1 = true → ab_CR l KT CL none ab_gW "StreamTransportModel" prog_12_method_47_code 1 0 0 eV_M_packets eI_M_packets pc q := by
  intro pc q hq hi
  have hm : pc ∈ cs_M_packets := ab_tab_cs (t := t_M_packets) (by decide +kernel) hq hi
  cases hm
theorem cw_M_packets : ab_cw y_M_packets prog_12_method_47_code 1 0 (some .int) := ⟨ab_gW_in 1329 (by decide +kernel) rfl, ab_gW_in 71 (by decide +kernel) rfl, by decide +kernel, by decide +kernel, by decide +kernel⟩
theorem is_M_packets : Cond.instanceMethod y_M_packets ∈ ab_gW := ab_gW_in 1327 (by decide +kernel) rfl
theorem sl_M_packets : Cond.selects "StreamTransportModel" y_M_packets y_M_packets ∈ ab_gW := ab_gW_in 1328 (by decide +kernel) rfl
set_option maxRecDepth 100000 in
theorem cm_M_packets (l : Launch) {av : List AV} {m : Mm} {r : Int32 × Mm} (h0 : c_M_packets av m = some r) : ∃ (k q : Nat) (av' : List AV) (ci : Nat) (fs : List (Nat × Nat × Nat × Nat)) (z : vw_C), av = .inr (.inr (k, some q)) :: av' ∧ av'.length = 0 ∧ k ≠ 0 ∧ KT[k]? = some (.inl (ci, fs)) ∧ CL[ci]? = some z ∧ z.1 = "StreamTransportModel" ∧ ab_nos av' ∧ ab_Met l KT CL y_M_packets (Cond.code y_M_packets prog_12_method_47_code 1 (some .int) :: ab_gW) 0 0 none av m (some (.inl r.1)) r.2 := by
  obtain ⟨v0, hav, h⟩ := c_M_packets_inv h0
  rw [r_M_packets_eq] at h
  have hmo : ab_mo m r.2 := ab_kp_mo (kp_M_packets h0)
  subst hav
  exact ⟨_, _, _, _, _, _, rfl, rfl, by decide, rfl, rfl, rfl, (by intro v hv q e; subst e; simp at hv), ab_met (by decide +kernel) KT_0 KT_nd KT_k3 E_M_packets (cl_M_packets l) hmo (Nat.le_of_ble_eq_true rfl) (ab_rI_inv h) (fun v hv => by cases hv; exact ⟨_, rfl⟩)⟩
/-! StreamTransportModel.packet(II)I -/
def y_M_packet : MethodName := ⟨"StreamTransportModel", "packet", "(II)I"⟩
def t_M_packet (pc : Nat) : Option Ent :=
  bif Nat.blt pc 35 then
    (bif Nat.blt pc 19 then
      (bif Nat.blt pc 7 then
        (bif Nat.blt pc 2 then
          (bif Nat.blt pc 1 then
            (bif Nat.beq pc 0 then some (.aload_n 0, 0, 0, 0, 0) else none)
          else
            bif Nat.beq pc 1 then some (.iconst 0, 0, 0, 0, 0) else none)
        else
          bif Nat.blt pc 5 then
            (bif Nat.beq pc 2 then some (.putfield 135, 10, 3, 0, 0) else none)
          else
            bif Nat.blt pc 6 then
              (bif Nat.beq pc 5 then some (.aload_n 0, 0, 0, 0, 0) else none)
            else
              bif Nat.beq pc 6 then some (.iload_n 1, 1, 0, 0, 0) else none)
      else
        bif Nat.blt pc 13 then
          (bif Nat.blt pc 10 then
            (bif Nat.beq pc 7 then some (.invokevirtual 262, 137, 2, 1, 0) else none)
          else
            bif Nat.beq pc 10 then some (.ifCond .eq (24), 34, 0, 0, 0) else none)
        else
          bif Nat.blt pc 14 then
            (bif Nat.beq pc 13 then some (.iload_n 2, 2, 0, 0, 0) else none)
          else
            bif Nat.blt pc 16 then
              (bif Nat.beq pc 14 then some (.bipush (-2), 0, 0, 0, -2) else none)
            else
              bif Nat.beq pc 16 then some (.if_icmp .lt (18), 34, 0, 0, 0) else none)
    else
      bif Nat.blt pc 27 then
        (bif Nat.blt pc 21 then
          (bif Nat.blt pc 20 then
            (bif Nat.beq pc 19 then some (.iload_n 2, 2, 0, 0, 0) else none)
          else
            bif Nat.beq pc 20 then some (.aload_n 0, 0, 0, 0, 0) else none)
        else
          bif Nat.blt pc 24 then
            (bif Nat.beq pc 21 then some (.getfield 110, 10, 38, 1, 0) else none)
          else
            bif Nat.blt pc 26 then
              (bif Nat.beq pc 24 then some (.bipush 42, 0, 0, 0, 42) else none)
            else
              bif Nat.beq pc 26 then some (.iload_n 1, 1, 0, 0, 0) else none)
      else
        bif Nat.blt pc 30 then
          (bif Nat.blt pc 28 then
            (bif Nat.beq pc 27 then some (.imul, 0, 0, 0, 0) else none)
          else
            bif Nat.blt pc 29 then
              (bif Nat.beq pc 28 then some (.iconst 1, 0, 0, 0, 1) else none)
            else
              bif Nat.beq pc 29 then some (.iadd, 0, 0, 0, 0) else none)
        else
          bif Nat.blt pc 31 then
            (bif Nat.beq pc 30 then some (.iaload, 0, 0, 0, 0) else none)
          else
            bif Nat.blt pc 34 then
              (bif Nat.beq pc 31 then some (.if_icmp .lt (5), 36, 0, 0, 0) else none)
            else
              bif Nat.beq pc 34 then some (.iconst (-1), 0, 0, 0, -1) else none)
  else
    bif Nat.blt pc 54 then
      (bif Nat.blt pc 43 then
        (bif Nat.blt pc 37 then
          (bif Nat.blt pc 36 then
            (bif Nat.beq pc 35 then some (.ireturn, 0, 0, 0, 0) else none)
          else
            bif Nat.beq pc 36 then some (.iload_n 2, 2, 0, 0, 0) else none)
        else
          bif Nat.blt pc 39 then
            (bif Nat.beq pc 37 then some (.bipush (-2), 0, 0, 0, -2) else none)
          else
            bif Nat.blt pc 42 then
              (bif Nat.beq pc 39 then some (.if_icmp .ne (15), 54, 0, 0, 0) else none)
            else
              bif Nat.beq pc 42 then some (.aload_n 0, 0, 0, 0, 0) else none)
      else
        bif Nat.blt pc 49 then
          (bif Nat.blt pc 46 then
            (bif Nat.beq pc 43 then some (.getfield 110, 10, 38, 1, 0) else none)
          else
            bif Nat.blt pc 48 then
              (bif Nat.beq pc 46 then some (.bipush 42, 0, 0, 0, 42) else none)
            else
              bif Nat.beq pc 48 then some (.iload_n 1, 1, 0, 0, 0) else none)
        else
          bif Nat.blt pc 50 then
            (bif Nat.beq pc 49 then some (.imul, 0, 0, 0, 0) else none)
          else
            bif Nat.blt pc 51 then
              (bif Nat.beq pc 50 then some (.iaload, 0, 0, 0, 0) else none)
            else
              bif Nat.beq pc 51 then some (.goto 16, 67, 0, 0, 0) else none)
    else
      bif Nat.blt pc 62 then
        (bif Nat.blt pc 58 then
          (bif Nat.blt pc 55 then
            (bif Nat.beq pc 54 then some (.aload_n 0, 0, 0, 0, 0) else none)
          else
            bif Nat.beq pc 55 then some (.getfield 110, 10, 38, 1, 0) else none)
        else
          bif Nat.blt pc 60 then
            (bif Nat.beq pc 58 then some (.bipush 42, 0, 0, 0, 42) else none)
          else
            bif Nat.blt pc 61 then
              (bif Nat.beq pc 60 then some (.iload_n 1, 1, 0, 0, 0) else none)
            else
              bif Nat.beq pc 61 then some (.imul, 0, 0, 0, 0) else none)
      else
        bif Nat.blt pc 65 then
          (bif Nat.blt pc 63 then
            (bif Nat.beq pc 62 then some (.iconst 2, 0, 0, 0, 2) else none)
          else
            bif Nat.blt pc 64 then
              (bif Nat.beq pc 63 then some (.iadd, 0, 0, 0, 0) else none)
            else
              bif Nat.beq pc 64 then some (.iload_n 2, 2, 0, 0, 0) else none)
        else
          bif Nat.blt pc 66 then
            (bif Nat.beq pc 65 then some (.iadd, 0, 0, 0, 0) else none)
          else
            bif Nat.blt pc 67 then
              (bif Nat.beq pc 66 then some (.iaload, 0, 0, 0, 0) else none)
            else
              bif Nat.beq pc 67 then some (.ireturn, 0, 0, 0, 0) else none
def i_M_packet : Nat → Option Ent := ab_tab 68 t_M_packet
def h_M_packet (pc : Nat) : Nat × List Bool := (0, [])
def s_M_packet (pc : Nat) : List (Int32 × Nat) × Nat := ([], 0)
noncomputable def eV_M_packet : Nat → List AV → Mm → Option Mm := ab_ev []
noncomputable def eI_M_packet : Nat → List AV → Mm → Option (Int32 × Mm) := ab_ev [(137, c_M_flies)]
noncomputable def b_M_packet_0 (f : Nat) (v0 : Nat) (v1 : Int32) (v2 : Int32) (m : Mm) : Option Rs := ab_ex KT none s_M_packet eV_M_packet eI_M_packet i_M_packet h_M_packet f 0 [some (.inr (.inr (28, some v0))), some (.inl v1), some (.inl v2)] [] m
set_option maxRecDepth 100000 in
set_option maxHeartbeats 4000000 in
theorem b_M_packet_0_eq (f : Nat) (v0 : Nat) (v1 : Int32) (v2 : Int32) (m : Mm) : b_M_packet_0 (f + 1) v0 v1 v2 m =
    ab_let (ab_uI m 84 v0 0 (0 : Int32)) fun m1 =>
    (r_M_flies v0 v1 m1).bind fun z2 =>
    if z2.1 = 0 then
      some (.inl (some (.inl (-1 : Int32)), z2.2))
    else
      if v2 < (-2 : Int32) then
        some (.inl (some (.inl (-1 : Int32)), z2.2))
      else
        (ab_ix (((42 : Int32) * v1) + (1 : Int32)) 672).bind fun i3 =>
        if v2 < (z2.2.1 166 (v0 + 34) i3) then
          if v2 = (-2 : Int32) then
            (ab_ix ((42 : Int32) * v1) 672).bind fun i5 =>
            some (.inl (some (.inl (z2.2.1 166 (v0 + 34) i5)), z2.2))
          else
            (ab_ix ((((42 : Int32) * v1) + (2 : Int32)) + v2) 672).bind fun i4 =>
            some (.inl (some (.inl (z2.2.1 166 (v0 + 34) i4)), z2.2))
        else
          some (.inl (some (.inl (-1 : Int32)), z2.2)) := rfl
noncomputable def r_M_packet : Nat → Int32 → Int32 → Mm → Option (Int32 × Mm) := ab_seal fun v0 v1 v2 m => ab_rI (b_M_packet_0 50000 v0 v1 v2 m)
theorem r_M_packet_eq (v0 : Nat) (v1 : Int32) (v2 : Int32) (m : Mm) : r_M_packet v0 v1 v2 m = ab_rI (b_M_packet_0 50000 v0 v1 v2 m) := by
  unfold r_M_packet
  rw [ab_seal_eq]
noncomputable def c_M_packet : List AV → Mm → Option (Int32 × Mm) := fun av m => match av with
  | [.inr (.inr (kv0, ov0)), .inl v1, .inl v2] => if kv0 = 28 then (ov0.bind fun v0 => r_M_packet v0 v1 v2 m) else none
  | _ => none
theorem c_M_packet_inv {av : List AV} {m : Mm} {r : Int32 × Mm} (h : c_M_packet av m = some r) : ∃ (v0 : Nat) (v1 : Int32) (v2 : Int32), av = [.inr (.inr (28, some v0)), .inl v1, .inl v2] ∧ r_M_packet v0 v1 v2 m = some r := by
  unfold c_M_packet at h
  split at h
  · rename_i kv0 ov0 v1 v2
    by_cases hkv0 : kv0 = 28
    case neg => rw [if_neg hkv0] at h; cases h
    rw [if_pos hkv0] at h
    subst hkv0
    obtain ⟨v0, hev0, h⟩ := Option.bind_eq_some_iff.mp h
    subst hev0
    exact ⟨v0, v1, v2, rfl, h⟩
  · cases h
def cs_M_packet : List Nat := [7]
set_option maxRecDepth 100000 in
theorem E_M_packet : ∀ (pc : Nat) (q : Ent), i_M_packet pc = some q → ab_E KT CL ab_gW "StreamTransportModel" "packet" (some .int) prog_12_method_48_code s_M_packet 3 pc q.1 q.2.1 q.2.2.1 q.2.2.2.1 q.2.2.2.2 := fun pc q hq =>
  ab_Eb_ok lc_M lj_M fl_M (fpn_M "packet") nw_M na_M nq_M (ab_tab_all (t := t_M_packet) (chk := fun pc q => ab_Eb (some .int) prog_12_method_48_code s_M_packet 3 LC_M LJ_M FL_M FPn_M NW_M NA_M NQ_M pc q.1 q.2.1 q.2.2.1 q.2.2.2.1 q.2.2.2.2) (by decide +kernel) hq)
set_option maxRecDepth 100000 in
theorem kp_M_packet {av : List AV} {m : Mm} {r : Int32 × Mm} (h : c_M_packet av m = some r) : ab_kp m r.2 := by
  obtain ⟨v0, v1, v2, -, h⟩ := c_M_packet_inv h
  rw [r_M_packet_eq] at h
  have hV : ∀ a av m m', eV_M_packet a av m = some m' → ab_kp m m' := ab_ev_all (P := fun _ m r => ab_kp m r) [] (fun q hq => by cases hq)
  have hI : ∀ a av m q, eI_M_packet a av m = some q → ab_kp m q.2 := ab_ev_all (P := fun _ (m : Mm) (r : Int32 × Mm) => ab_kp m r.2) [(137, c_M_flies)] (List.forall_mem_cons.mpr ⟨fun av m r h => kp_M_flies h, fun q hq => by cases hq⟩)
  exact ab_kprel (ρ := .inl (some (.inl r.1), r.2)) (ab_tab_isn (t := t_M_packet) (by decide +kernel)) hV hI (ab_rI_inv h)
set_option maxRecDepth 100000 in
theorem cl_M_packet (l : Launch) : ∀ (pc : Nat) (q : Ent), i_M_packet pc = some q → ab_inv q.1 = true → ab_CR l KT CL none ab_gW "StreamTransportModel" prog_12_method_48_code 3 1 21 eV_M_packet eI_M_packet pc q := by
  intro pc q hq hi
  have hm : pc ∈ cs_M_packet := ab_tab_cs (t := t_M_packet) (by decide +kernel) hq hi
  simp only [cs_M_packet, List.mem_cons, List.not_mem_nil, or_false] at hm
  rcases hm with rfl
  · cases (Option.some.inj hq : ((.invokevirtual 262, 137, 2, 1, 0) : Ent) = q)
    exact ab_crV (C := "StreamTransportModel") (by decide +kernel) cw_M_flies (ab_gW_in 1248 (by decide +kernel) rfl) is_M_flies sl_M_flies (by decide) (fun av m m' h => by cases h) (fun av m r h => cm_M_flies l h) KT_nd
theorem cw_M_packet : ab_cw y_M_packet prog_12_method_48_code 3 2 (some .int) := ⟨ab_gW_in 1333 (by decide +kernel) rfl, ab_gW_in 71 (by decide +kernel) rfl, by decide +kernel, by decide +kernel, by decide +kernel⟩
theorem is_M_packet : Cond.instanceMethod y_M_packet ∈ ab_gW := ab_gW_in 1331 (by decide +kernel) rfl
theorem sl_M_packet : Cond.selects "StreamTransportModel" y_M_packet y_M_packet ∈ ab_gW := ab_gW_in 1332 (by decide +kernel) rfl
set_option maxRecDepth 100000 in
theorem cm_M_packet (l : Launch) {av : List AV} {m : Mm} {r : Int32 × Mm} (h0 : c_M_packet av m = some r) : ∃ (k q : Nat) (av' : List AV) (ci : Nat) (fs : List (Nat × Nat × Nat × Nat)) (z : vw_C), av = .inr (.inr (k, some q)) :: av' ∧ av'.length = 2 ∧ k ≠ 0 ∧ KT[k]? = some (.inl (ci, fs)) ∧ CL[ci]? = some z ∧ z.1 = "StreamTransportModel" ∧ ab_nos av' ∧ ab_Met l KT CL y_M_packet (Cond.code y_M_packet prog_12_method_48_code 3 (some .int) :: ab_gW) 1 21 none av m (some (.inl r.1)) r.2 := by
  obtain ⟨v0, v1, v2, hav, h⟩ := c_M_packet_inv h0
  rw [r_M_packet_eq] at h
  have hmo : ab_mo m r.2 := ab_kp_mo (kp_M_packet h0)
  subst hav
  exact ⟨_, _, _, _, _, _, rfl, rfl, by decide, rfl, rfl, rfl, (by intro v hv q e; subst e; simp at hv), ab_met (by decide +kernel) KT_0 KT_nd KT_k3 E_M_packet (cl_M_packet l) hmo (Nat.le_of_ble_eq_true rfl) (ab_rI_inv h) (fun v hv => by cases hv; exact ⟨_, rfl⟩)⟩
/-! StreamTransportModel.closed(I)I -/
def y_M_closed : MethodName := ⟨"StreamTransportModel", "closed", "(I)I"⟩
def t_M_closed (pc : Nat) : Option Ent :=
  bif Nat.blt pc 11 then
    (bif Nat.blt pc 5 then
      (bif Nat.blt pc 1 then
        (bif Nat.beq pc 0 then some (.aload_n 0, 0, 0, 0, 0) else none)
      else
        bif Nat.blt pc 2 then
          (bif Nat.beq pc 1 then some (.iconst 0, 0, 0, 0, 0) else none)
        else
          bif Nat.beq pc 2 then some (.putfield 135, 10, 3, 0, 0) else none)
    else
      bif Nat.blt pc 7 then
        (bif Nat.blt pc 6 then
          (bif Nat.beq pc 5 then some (.iload_n 1, 1, 0, 0, 0) else none)
        else
          bif Nat.beq pc 6 then some (.iconst 0, 0, 0, 0, 0) else none)
      else
        bif Nat.blt pc 8 then
          (bif Nat.beq pc 7 then some (.iconst 1, 0, 0, 0, 1) else none)
        else
          bif Nat.beq pc 8 then some (.invokestatic 138, 104, 3, 1, 0) else none)
  else
    bif Nat.blt pc 19 then
      (bif Nat.blt pc 15 then
        (bif Nat.blt pc 14 then
          (bif Nat.beq pc 11 then some (.ifCond .eq (12), 23, 0, 0, 0) else none)
        else
          bif Nat.beq pc 14 then some (.aload_n 0, 0, 0, 0, 0) else none)
      else
        bif Nat.blt pc 18 then
          (bif Nat.beq pc 15 then some (.getfield 74, 10, 25, 1, 0) else none)
        else
          bif Nat.beq pc 18 then some (.iload_n 1, 1, 0, 0, 0) else none)
    else
      bif Nat.blt pc 23 then
        (bif Nat.blt pc 20 then
          (bif Nat.beq pc 19 then some (.iaload, 0, 0, 0, 0) else none)
        else
          bif Nat.beq pc 20 then some (.goto 4, 24, 0, 0, 0) else none)
      else
        bif Nat.blt pc 24 then
          (bif Nat.beq pc 23 then some (.iconst (-1), 0, 0, 0, -1) else none)
        else
          bif Nat.beq pc 24 then some (.ireturn, 0, 0, 0, 0) else none
def i_M_closed : Nat → Option Ent := ab_tab 25 t_M_closed
def h_M_closed (pc : Nat) : Nat × List Bool := (0, [])
def s_M_closed (pc : Nat) : List (Int32 × Nat) × Nat := ([], 0)
noncomputable def eV_M_closed : Nat → List AV → Mm → Option Mm := ab_ev []
noncomputable def eI_M_closed : Nat → List AV → Mm → Option (Int32 × Mm) := ab_ev [(104, c_M_in)]
noncomputable def b_M_closed_0 (f : Nat) (v0 : Nat) (v1 : Int32) (m : Mm) : Option Rs := ab_ex KT none s_M_closed eV_M_closed eI_M_closed i_M_closed h_M_closed f 0 [some (.inr (.inr (28, some v0))), some (.inl v1)] [] m
set_option maxRecDepth 100000 in
set_option maxHeartbeats 4000000 in
theorem b_M_closed_0_eq (f : Nat) (v0 : Nat) (v1 : Int32) (m : Mm) : b_M_closed_0 (f + 1) v0 v1 m =
    ab_let (ab_uI m 84 v0 0 (0 : Int32)) fun m1 =>
    (r_M_in v1 (0 : Int32) (1 : Int32) m1).bind fun z2 =>
    if z2.1 = 0 then
      some (.inl (some (.inl (-1 : Int32)), z2.2))
    else
      (ab_ix v1 2).bind fun i3 =>
      some (.inl (some (.inl (z2.2.1 154 (v0 + 22) i3)), z2.2)) := rfl
noncomputable def r_M_closed : Nat → Int32 → Mm → Option (Int32 × Mm) := ab_seal fun v0 v1 m => ab_rI (b_M_closed_0 50000 v0 v1 m)
theorem r_M_closed_eq (v0 : Nat) (v1 : Int32) (m : Mm) : r_M_closed v0 v1 m = ab_rI (b_M_closed_0 50000 v0 v1 m) := by
  unfold r_M_closed
  rw [ab_seal_eq]
noncomputable def c_M_closed : List AV → Mm → Option (Int32 × Mm) := fun av m => match av with
  | [.inr (.inr (kv0, ov0)), .inl v1] => if kv0 = 28 then (ov0.bind fun v0 => r_M_closed v0 v1 m) else none
  | _ => none
theorem c_M_closed_inv {av : List AV} {m : Mm} {r : Int32 × Mm} (h : c_M_closed av m = some r) : ∃ (v0 : Nat) (v1 : Int32), av = [.inr (.inr (28, some v0)), .inl v1] ∧ r_M_closed v0 v1 m = some r := by
  unfold c_M_closed at h
  split at h
  · rename_i kv0 ov0 v1
    by_cases hkv0 : kv0 = 28
    case neg => rw [if_neg hkv0] at h; cases h
    rw [if_pos hkv0] at h
    subst hkv0
    obtain ⟨v0, hev0, h⟩ := Option.bind_eq_some_iff.mp h
    subst hev0
    exact ⟨v0, v1, rfl, h⟩
  · cases h
def cs_M_closed : List Nat := [8]
set_option maxRecDepth 100000 in
theorem E_M_closed : ∀ (pc : Nat) (q : Ent), i_M_closed pc = some q → ab_E KT CL ab_gW "StreamTransportModel" "closed" (some .int) prog_12_method_49_code s_M_closed 2 pc q.1 q.2.1 q.2.2.1 q.2.2.2.1 q.2.2.2.2 := fun pc q hq =>
  ab_Eb_ok lc_M lj_M fl_M (fpn_M "closed") nw_M na_M nq_M (ab_tab_all (t := t_M_closed) (chk := fun pc q => ab_Eb (some .int) prog_12_method_49_code s_M_closed 2 LC_M LJ_M FL_M FPn_M NW_M NA_M NQ_M pc q.1 q.2.1 q.2.2.1 q.2.2.2.1 q.2.2.2.2) (by decide +kernel) hq)
set_option maxRecDepth 100000 in
theorem kp_M_closed {av : List AV} {m : Mm} {r : Int32 × Mm} (h : c_M_closed av m = some r) : ab_kp m r.2 := by
  obtain ⟨v0, v1, -, h⟩ := c_M_closed_inv h
  rw [r_M_closed_eq] at h
  have hV : ∀ a av m m', eV_M_closed a av m = some m' → ab_kp m m' := ab_ev_all (P := fun _ m r => ab_kp m r) [] (fun q hq => by cases hq)
  have hI : ∀ a av m q, eI_M_closed a av m = some q → ab_kp m q.2 := ab_ev_all (P := fun _ (m : Mm) (r : Int32 × Mm) => ab_kp m r.2) [(104, c_M_in)] (List.forall_mem_cons.mpr ⟨fun av m r h => kp_M_in h, fun q hq => by cases hq⟩)
  exact ab_kprel (ρ := .inl (some (.inl r.1), r.2)) (ab_tab_isn (t := t_M_closed) (by decide +kernel)) hV hI (ab_rI_inv h)
set_option maxRecDepth 100000 in
theorem cl_M_closed (l : Launch) : ∀ (pc : Nat) (q : Ent), i_M_closed pc = some q → ab_inv q.1 = true → ab_CR l KT CL none ab_gW "StreamTransportModel" prog_12_method_49_code 2 1 22 eV_M_closed eI_M_closed pc q := by
  intro pc q hq hi
  have hm : pc ∈ cs_M_closed := ab_tab_cs (t := t_M_closed) (by decide +kernel) hq hi
  simp only [cs_M_closed, List.mem_cons, List.not_mem_nil, or_false] at hm
  rcases hm with rfl
  · cases (Option.some.inj hq : ((.invokestatic 138, 104, 3, 1, 0) : Ent) = q)
    exact ab_crS (by decide +kernel) cw_M_in (ab_gW_in 1154 (by decide +kernel) rfl) st_M_in (by decide) (fun av m m' h => by cases h) (fun av m r h => cm_M_in l h) KT_nd
theorem cw_M_closed : ab_cw y_M_closed prog_12_method_49_code 2 1 (some .int) := ⟨ab_gW_in 1337 (by decide +kernel) rfl, ab_gW_in 71 (by decide +kernel) rfl, by decide +kernel, by decide +kernel, by decide +kernel⟩
theorem is_M_closed : Cond.instanceMethod y_M_closed ∈ ab_gW := ab_gW_in 1335 (by decide +kernel) rfl
theorem sl_M_closed : Cond.selects "StreamTransportModel" y_M_closed y_M_closed ∈ ab_gW := ab_gW_in 1336 (by decide +kernel) rfl
set_option maxRecDepth 100000 in
theorem cm_M_closed (l : Launch) {av : List AV} {m : Mm} {r : Int32 × Mm} (h0 : c_M_closed av m = some r) : ∃ (k q : Nat) (av' : List AV) (ci : Nat) (fs : List (Nat × Nat × Nat × Nat)) (z : vw_C), av = .inr (.inr (k, some q)) :: av' ∧ av'.length = 1 ∧ k ≠ 0 ∧ KT[k]? = some (.inl (ci, fs)) ∧ CL[ci]? = some z ∧ z.1 = "StreamTransportModel" ∧ ab_nos av' ∧ ab_Met l KT CL y_M_closed (Cond.code y_M_closed prog_12_method_49_code 2 (some .int) :: ab_gW) 1 22 none av m (some (.inl r.1)) r.2 := by
  obtain ⟨v0, v1, hav, h⟩ := c_M_closed_inv h0
  rw [r_M_closed_eq] at h
  have hmo : ab_mo m r.2 := ab_kp_mo (kp_M_closed h0)
  subst hav
  exact ⟨_, _, _, _, _, _, rfl, rfl, by decide, rfl, rfl, rfl, (by intro v hv q e; subst e; simp at hv), ab_met (by decide +kernel) KT_0 KT_nd KT_k3 E_M_closed (cl_M_closed l) hmo (Nat.le_of_ble_eq_true rfl) (ab_rI_inv h) (fun v hv => by cases hv; exact ⟨_, rfl⟩)⟩
/-! StreamTransportModel.about(II)I -/
def y_M_about : MethodName := ⟨"StreamTransportModel", "about", "(II)I"⟩
def t_M_about (pc : Nat) : Option Ent :=
  bif Nat.blt pc 71 then
    (bif Nat.blt pc 36 then
      (bif Nat.blt pc 17 then
        (bif Nat.blt pc 7 then
          (bif Nat.blt pc 2 then
            (bif Nat.blt pc 1 then
              (bif Nat.beq pc 0 then some (.aload_n 0, 0, 0, 0, 0) else none)
            else
              bif Nat.beq pc 1 then some (.iconst 0, 0, 0, 0, 0) else none)
          else
            bif Nat.blt pc 5 then
              (bif Nat.beq pc 2 then some (.putfield 135, 10, 3, 0, 0) else none)
            else
              bif Nat.blt pc 6 then
                (bif Nat.beq pc 5 then some (.iload_n 1, 1, 0, 0, 0) else none)
              else
                bif Nat.beq pc 6 then some (.iconst 0, 0, 0, 0, 0) else none)
        else
          bif Nat.blt pc 14 then
            (bif Nat.blt pc 8 then
              (bif Nat.beq pc 7 then some (.iconst 1, 0, 0, 0, 1) else none)
            else
              bif Nat.blt pc 11 then
                (bif Nat.beq pc 8 then some (.invokestatic 138, 104, 3, 1, 0) else none)
              else
                bif Nat.beq pc 11 then some (.ifCond .eq (12), 23, 0, 0, 0) else none)
          else
            bif Nat.blt pc 15 then
              (bif Nat.beq pc 14 then some (.iload_n 2, 2, 0, 0, 0) else none)
            else
              bif Nat.blt pc 16 then
                (bif Nat.beq pc 15 then some (.iconst 0, 0, 0, 0, 0) else none)
              else
                bif Nat.beq pc 16 then some (.iconst 5, 0, 0, 0, 5) else none)
      else
        bif Nat.blt pc 26 then
          (bif Nat.blt pc 23 then
            (bif Nat.blt pc 20 then
              (bif Nat.beq pc 17 then some (.invokestatic 138, 104, 3, 1, 0) else none)
            else
              bif Nat.beq pc 20 then some (.ifCond .ne (5), 25, 0, 0, 0) else none)
          else
            bif Nat.blt pc 24 then
              (bif Nat.beq pc 23 then some (.iconst (-1), 0, 0, 0, -1) else none)
            else
              bif Nat.blt pc 25 then
                (bif Nat.beq pc 24 then some (.ireturn, 0, 0, 0, 0) else none)
              else
                bif Nat.beq pc 25 then some (.iload_n 2, 2, 0, 0, 0) else none)
        else
          bif Nat.blt pc 33 then
            (bif Nat.blt pc 29 then
              (bif Nat.beq pc 26 then some (.ifCond .ne (10), 36, 0, 0, 0) else none)
            else
              bif Nat.blt pc 30 then
                (bif Nat.beq pc 29 then some (.aload_n 0, 0, 0, 0, 0) else none)
              else
                bif Nat.beq pc 30 then some (.getfield 65, 10, 22, 1, 0) else none)
          else
            bif Nat.blt pc 34 then
              (bif Nat.beq pc 33 then some (.iload_n 1, 1, 0, 0, 0) else none)
            else
              bif Nat.blt pc 35 then
                (bif Nat.beq pc 34 then some (.iaload, 0, 0, 0, 0) else none)
              else
                bif Nat.beq pc 35 then some (.ireturn, 0, 0, 0, 0) else none)
    else
      bif Nat.blt pc 53 then
        (bif Nat.blt pc 45 then
          (bif Nat.blt pc 38 then
            (bif Nat.blt pc 37 then
              (bif Nat.beq pc 36 then some (.iload_n 2, 2, 0, 0, 0) else none)
            else
              bif Nat.beq pc 37 then some (.iconst 2, 0, 0, 0, 2) else none)
          else
            bif Nat.blt pc 41 then
              (bif Nat.beq pc 38 then some (.if_icmp .ne (10), 48, 0, 0, 0) else none)
            else
              bif Nat.blt pc 42 then
                (bif Nat.beq pc 41 then some (.aload_n 0, 0, 0, 0, 0) else none)
              else
                bif Nat.beq pc 42 then some (.getfield 59, 10, 20, 1, 0) else none)
        else
          bif Nat.blt pc 48 then
            (bif Nat.blt pc 46 then
              (bif Nat.beq pc 45 then some (.iload_n 1, 1, 0, 0, 0) else none)
            else
              bif Nat.blt pc 47 then
                (bif Nat.beq pc 46 then some (.iaload, 0, 0, 0, 0) else none)
              else
                bif Nat.beq pc 47 then some (.ireturn, 0, 0, 0, 0) else none)
          else
            bif Nat.blt pc 49 then
              (bif Nat.beq pc 48 then some (.iload_n 2, 2, 0, 0, 0) else none)
            else
              bif Nat.blt pc 50 then
                (bif Nat.beq pc 49 then some (.iconst 3, 0, 0, 0, 3) else none)
              else
                bif Nat.beq pc 50 then some (.if_icmp .ne (10), 60, 0, 0, 0) else none)
      else
        bif Nat.blt pc 61 then
          (bif Nat.blt pc 58 then
            (bif Nat.blt pc 54 then
              (bif Nat.beq pc 53 then some (.aload_n 0, 0, 0, 0, 0) else none)
            else
              bif Nat.blt pc 57 then
                (bif Nat.beq pc 54 then some (.getfield 62, 10, 21, 1, 0) else none)
              else
                bif Nat.beq pc 57 then some (.iload_n 1, 1, 0, 0, 0) else none)
          else
            bif Nat.blt pc 59 then
              (bif Nat.beq pc 58 then some (.iaload, 0, 0, 0, 0) else none)
            else
              bif Nat.blt pc 60 then
                (bif Nat.beq pc 59 then some (.ireturn, 0, 0, 0, 0) else none)
              else
                bif Nat.beq pc 60 then some (.iload_n 2, 2, 0, 0, 0) else none)
        else
          bif Nat.blt pc 66 then
            (bif Nat.blt pc 62 then
              (bif Nat.beq pc 61 then some (.iconst 4, 0, 0, 0, 4) else none)
            else
              bif Nat.blt pc 65 then
                (bif Nat.beq pc 62 then some (.if_icmp .ne (10), 72, 0, 0, 0) else none)
              else
                bif Nat.beq pc 65 then some (.aload_n 0, 0, 0, 0, 0) else none)
          else
            bif Nat.blt pc 69 then
              (bif Nat.beq pc 66 then some (.getfield 68, 10, 23, 1, 0) else none)
            else
              bif Nat.blt pc 70 then
                (bif Nat.beq pc 69 then some (.iload_n 1, 1, 0, 0, 0) else none)
              else
                bif Nat.beq pc 70 then some (.iaload, 0, 0, 0, 0) else none)
  else
    bif Nat.blt pc 106 then
      (bif Nat.blt pc 86 then
        (bif Nat.blt pc 78 then
          (bif Nat.blt pc 73 then
            (bif Nat.blt pc 72 then
              (bif Nat.beq pc 71 then some (.ireturn, 0, 0, 0, 0) else none)
            else
              bif Nat.beq pc 72 then some (.iload_n 2, 2, 0, 0, 0) else none)
          else
            bif Nat.blt pc 74 then
              (bif Nat.beq pc 73 then some (.iconst 5, 0, 0, 0, 5) else none)
            else
              bif Nat.blt pc 77 then
                (bif Nat.beq pc 74 then some (.if_icmp .ne (10), 84, 0, 0, 0) else none)
              else
                bif Nat.beq pc 77 then some (.aload_n 0, 0, 0, 0, 0) else none)
        else
          bif Nat.blt pc 83 then
            (bif Nat.blt pc 81 then
              (bif Nat.beq pc 78 then some (.getfield 80, 10, 27, 1, 0) else none)
            else
              bif Nat.blt pc 82 then
                (bif Nat.beq pc 81 then some (.iload_n 1, 1, 0, 0, 0) else none)
              else
                bif Nat.beq pc 82 then some (.iaload, 0, 0, 0, 0) else none)
          else
            bif Nat.blt pc 84 then
              (bif Nat.beq pc 83 then some (.ireturn, 0, 0, 0, 0) else none)
            else
              bif Nat.blt pc 85 then
                (bif Nat.beq pc 84 then some (.iconst 0, 0, 0, 0, 0) else none)
              else
                bif Nat.beq pc 85 then some (.istore_n 3, 3, 0, 0, 0) else none)
      else
        bif Nat.blt pc 98 then
          (bif Nat.blt pc 91 then
            (bif Nat.blt pc 89 then
              (bif Nat.beq pc 86 then some (.sipush 560, 0, 0, 0, 560) else none)
            else
              bif Nat.blt pc 90 then
                (bif Nat.beq pc 89 then some (.iload_n 1, 1, 0, 0, 0) else none)
              else
                bif Nat.beq pc 90 then some (.imul, 0, 0, 0, 0) else none)
          else
            bif Nat.blt pc 93 then
              (bif Nat.beq pc 91 then some (.istore 4, 4, 0, 0, 0) else none)
            else
              bif Nat.blt pc 95 then
                (bif Nat.beq pc 93 then some (.iload 4, 4, 0, 0, 0) else none)
              else
                bif Nat.beq pc 95 then some (.sipush 560, 0, 0, 0, 560) else none)
        else
          bif Nat.blt pc 101 then
            (bif Nat.blt pc 99 then
              (bif Nat.beq pc 98 then some (.iload_n 1, 1, 0, 0, 0) else none)
            else
              bif Nat.blt pc 100 then
                (bif Nat.beq pc 99 then some (.imul, 0, 0, 0, 0) else none)
              else
                bif Nat.beq pc 100 then some (.aload_n 0, 0, 0, 0, 0) else none)
          else
            bif Nat.blt pc 104 then
              (bif Nat.beq pc 101 then some (.getfield 65, 10, 22, 1, 0) else none)
            else
              bif Nat.blt pc 105 then
                (bif Nat.beq pc 104 then some (.iload_n 1, 1, 0, 0, 0) else none)
              else
                bif Nat.beq pc 105 then some (.iaload, 0, 0, 0, 0) else none)
    else
      bif Nat.blt pc 127 then
        (bif Nat.blt pc 116 then
          (bif Nat.blt pc 110 then
            (bif Nat.blt pc 107 then
              (bif Nat.beq pc 106 then some (.iadd, 0, 0, 0, 0) else none)
            else
              bif Nat.beq pc 107 then some (.if_icmp .ge (38), 145, 0, 0, 0) else none)
          else
            bif Nat.blt pc 111 then
              (bif Nat.beq pc 110 then some (.aload_n 0, 0, 0, 0, 0) else none)
            else
              bif Nat.blt pc 114 then
                (bif Nat.beq pc 111 then some (.getfield 98, 10, 33, 1, 0) else none)
              else
                bif Nat.beq pc 114 then some (.iload 4, 4, 0, 0, 0) else none)
        else
          bif Nat.blt pc 121 then
            (bif Nat.blt pc 117 then
              (bif Nat.beq pc 116 then some (.iaload, 0, 0, 0, 0) else none)
            else
              bif Nat.blt pc 120 then
                (bif Nat.beq pc 117 then some (.ifCond .ne (20), 137, 0, 0, 0) else none)
              else
                bif Nat.beq pc 120 then some (.aload_n 0, 0, 0, 0, 0) else none)
          else
            bif Nat.blt pc 124 then
              (bif Nat.beq pc 121 then some (.getfield 101, 10, 34, 1, 0) else none)
            else
              bif Nat.blt pc 126 then
                (bif Nat.beq pc 124 then some (.iload 4, 4, 0, 0, 0) else none)
              else
                bif Nat.beq pc 126 then some (.iaload, 0, 0, 0, 0) else none)
      else
        bif Nat.blt pc 137 then
          (bif Nat.blt pc 132 then
            (bif Nat.blt pc 128 then
              (bif Nat.beq pc 127 then some (.iconst 1, 0, 0, 0, 1) else none)
            else
              bif Nat.blt pc 131 then
                (bif Nat.beq pc 128 then some (.if_icmp .ne (9), 137, 0, 0, 0) else none)
              else
                bif Nat.beq pc 131 then some (.iload_n 3, 3, 0, 0, 0) else none)
          else
            bif Nat.blt pc 133 then
              (bif Nat.beq pc 132 then some (.iconst 1, 0, 0, 0, 1) else none)
            else
              bif Nat.blt pc 134 then
                (bif Nat.beq pc 133 then some (.iadd, 0, 0, 0, 0) else none)
              else
                bif Nat.beq pc 134 then some (.goto 4, 138, 0, 0, 0) else none)
        else
          bif Nat.blt pc 142 then
            (bif Nat.blt pc 138 then
              (bif Nat.beq pc 137 then some (.iload_n 3, 3, 0, 0, 0) else none)
            else
              bif Nat.blt pc 139 then
                (bif Nat.beq pc 138 then some (.istore_n 3, 3, 0, 0, 0) else none)
              else
                bif Nat.beq pc 139 then some (.iinc 4 1, 4, 0, 0, 1) else none)
          else
            bif Nat.blt pc 145 then
              (bif Nat.beq pc 142 then some (.goto (-49), 93, 0, 0, 0) else none)
            else
              bif Nat.blt pc 146 then
                (bif Nat.beq pc 145 then some (.iload_n 3, 3, 0, 0, 0) else none)
              else
                bif Nat.beq pc 146 then some (.ireturn, 0, 0, 0, 0) else none
def i_M_about : Nat → Option Ent := ab_tab 147 t_M_about
def h_M_about (pc : Nat) : Nat × List Bool := bif Nat.beq pc 93 then (1, [true, true, false, true, true]) else bif Nat.beq pc 137 then (1, [true, true, false, true, true]) else bif Nat.beq pc 138 then (1, [true, true, false, false, true]) else (0, [])
def s_M_about (pc : Nat) : List (Int32 × Nat) × Nat := ([], 0)
noncomputable def eV_M_about : Nat → List AV → Mm → Option Mm := ab_ev []
noncomputable def eI_M_about : Nat → List AV → Mm → Option (Int32 × Mm) := ab_ev [(104, c_M_in)]
noncomputable def b_M_about_0 (f : Nat) (v0 : Nat) (v1 : Int32) (v2 : Int32) (m : Mm) : Option Rs := ab_ex KT none s_M_about eV_M_about eI_M_about i_M_about h_M_about f 0 [some (.inr (.inr (28, some v0))), some (.inl v1), some (.inl v2), none, none] [] m
noncomputable def b_M_about_93 (f : Nat) (v0 : Nat) (v1 : Int32) (v3 : Int32) (v4 : Int32) (m : Mm) : Option Rs := ab_ex KT none s_M_about eV_M_about eI_M_about i_M_about h_M_about f 93 [some (.inr (.inr (28, some v0))), some (.inl v1), none, some (.inl v3), some (.inl v4)] [] m
noncomputable def b_M_about_137 (f : Nat) (v0 : Nat) (v1 : Int32) (v3 : Int32) (v4 : Int32) (m : Mm) : Option Rs := ab_ex KT none s_M_about eV_M_about eI_M_about i_M_about h_M_about f 137 [some (.inr (.inr (28, some v0))), some (.inl v1), none, some (.inl v3), some (.inl v4)] [] m
noncomputable def b_M_about_138 (f : Nat) (v0 : Nat) (v1 : Int32) (v4 : Int32) (u0 : Int32) (m : Mm) : Option Rs := ab_ex KT none s_M_about eV_M_about eI_M_about i_M_about h_M_about f 138 [some (.inr (.inr (28, some v0))), some (.inl v1), none, none, some (.inl v4)] [.inl u0] m
set_option maxRecDepth 100000 in
set_option maxHeartbeats 4000000 in
theorem b_M_about_0_eq (f : Nat) (v0 : Nat) (v1 : Int32) (v2 : Int32) (m : Mm) : b_M_about_0 (f + 1) v0 v1 v2 m =
    ab_let (ab_uI m 84 v0 0 (0 : Int32)) fun m1 =>
    (r_M_in v1 (0 : Int32) (1 : Int32) m1).bind fun z2 =>
    if z2.1 = 0 then
      some (.inl (some (.inl (-1 : Int32)), z2.2))
    else
      (r_M_in v2 (0 : Int32) (5 : Int32) z2.2).bind fun z3 =>
      if z3.1 = 0 then
        some (.inl (some (.inl (-1 : Int32)), z3.2))
      else
        if v2 = 0 then
          (ab_ix v1 2).bind fun i9 =>
          some (.inl (some (.inl (z3.2.1 151 (v0 + 19) i9)), z3.2))
        else
          if v2 = (2 : Int32) then
            (ab_ix v1 2).bind fun i8 =>
            some (.inl (some (.inl (z3.2.1 149 (v0 + 17) i8)), z3.2))
          else
            if v2 = (3 : Int32) then
              (ab_ix v1 2).bind fun i7 =>
              some (.inl (some (.inl (z3.2.1 150 (v0 + 18) i7)), z3.2))
            else
              if v2 = (4 : Int32) then
                (ab_ix v1 2).bind fun i6 =>
                some (.inl (some (.inl (z3.2.1 152 (v0 + 20) i6)), z3.2))
              else
                if v2 = (5 : Int32) then
                  (ab_ix v1 2).bind fun i5 =>
                  some (.inl (some (.inl (z3.2.1 156 (v0 + 24) i5)), z3.2))
                else
                  ab_let (((560 : Int32) * v1)) fun x4 =>
                  b_M_about_93 f v0 v1 (0 : Int32) x4 z3.2 := rfl
set_option maxRecDepth 100000 in
set_option maxHeartbeats 4000000 in
theorem b_M_about_93_eq (f : Nat) (v0 : Nat) (v1 : Int32) (v3 : Int32) (v4 : Int32) (m : Mm) : b_M_about_93 (f + 1) v0 v1 v3 v4 m =
    (ab_ix v1 2).bind fun i1 =>
    if (((560 : Int32) * v1) + (m.1 151 (v0 + 19) i1)) ≤ v4 then
      some (.inl (some (.inl v3), m))
    else
      (ab_ix v4 1120).bind fun i2 =>
      if (m.1 162 (v0 + 30) i2) = 0 then
        (ab_ix v4 1120).bind fun i3 =>
        if (m.1 163 (v0 + 31) i3) = (1 : Int32) then
          b_M_about_138 f v0 v1 v4 (v3 + (1 : Int32)) m
        else
          b_M_about_137 f v0 v1 v3 v4 m
      else
        b_M_about_137 f v0 v1 v3 v4 m := rfl
set_option maxRecDepth 100000 in
set_option maxHeartbeats 4000000 in
theorem b_M_about_137_eq (f : Nat) (v0 : Nat) (v1 : Int32) (v3 : Int32) (v4 : Int32) (m : Mm) : b_M_about_137 (f + 1) v0 v1 v3 v4 m =
    b_M_about_138 f v0 v1 v4 v3 m := rfl
set_option maxRecDepth 100000 in
set_option maxHeartbeats 4000000 in
theorem b_M_about_138_eq (f : Nat) (v0 : Nat) (v1 : Int32) (v4 : Int32) (u0 : Int32) (m : Mm) : b_M_about_138 (f + 1) v0 v1 v4 u0 m =
    ab_let (v4 + (1 : Int32)) fun x1 =>
    b_M_about_93 f v0 v1 u0 x1 m := rfl
noncomputable def r_M_about : Nat → Int32 → Int32 → Mm → Option (Int32 × Mm) := ab_seal fun v0 v1 v2 m => ab_rI (b_M_about_0 50000 v0 v1 v2 m)
theorem r_M_about_eq (v0 : Nat) (v1 : Int32) (v2 : Int32) (m : Mm) : r_M_about v0 v1 v2 m = ab_rI (b_M_about_0 50000 v0 v1 v2 m) := by
  unfold r_M_about
  rw [ab_seal_eq]
noncomputable def c_M_about : List AV → Mm → Option (Int32 × Mm) := fun av m => match av with
  | [.inr (.inr (kv0, ov0)), .inl v1, .inl v2] => if kv0 = 28 then (ov0.bind fun v0 => r_M_about v0 v1 v2 m) else none
  | _ => none
theorem c_M_about_inv {av : List AV} {m : Mm} {r : Int32 × Mm} (h : c_M_about av m = some r) : ∃ (v0 : Nat) (v1 : Int32) (v2 : Int32), av = [.inr (.inr (28, some v0)), .inl v1, .inl v2] ∧ r_M_about v0 v1 v2 m = some r := by
  unfold c_M_about at h
  split at h
  · rename_i kv0 ov0 v1 v2
    by_cases hkv0 : kv0 = 28
    case neg => rw [if_neg hkv0] at h; cases h
    rw [if_pos hkv0] at h
    subst hkv0
    obtain ⟨v0, hev0, h⟩ := Option.bind_eq_some_iff.mp h
    subst hev0
    exact ⟨v0, v1, v2, rfl, h⟩
  · cases h
def cs_M_about : List Nat := [8, 17]
set_option maxRecDepth 100000 in
theorem E_M_about : ∀ (pc : Nat) (q : Ent), i_M_about pc = some q → ab_E KT CL ab_gW "StreamTransportModel" "about" (some .int) prog_12_method_50_code s_M_about 5 pc q.1 q.2.1 q.2.2.1 q.2.2.2.1 q.2.2.2.2 := fun pc q hq =>
  ab_Eb_ok lc_M lj_M fl_M (fpn_M "about") nw_M na_M nq_M (ab_tab_all (t := t_M_about) (chk := fun pc q => ab_Eb (some .int) prog_12_method_50_code s_M_about 5 LC_M LJ_M FL_M FPn_M NW_M NA_M NQ_M pc q.1 q.2.1 q.2.2.1 q.2.2.2.1 q.2.2.2.2) (by decide +kernel) hq)
set_option maxRecDepth 100000 in
theorem kp_M_about {av : List AV} {m : Mm} {r : Int32 × Mm} (h : c_M_about av m = some r) : ab_kp m r.2 := by
  obtain ⟨v0, v1, v2, -, h⟩ := c_M_about_inv h
  rw [r_M_about_eq] at h
  have hV : ∀ a av m m', eV_M_about a av m = some m' → ab_kp m m' := ab_ev_all (P := fun _ m r => ab_kp m r) [] (fun q hq => by cases hq)
  have hI : ∀ a av m q, eI_M_about a av m = some q → ab_kp m q.2 := ab_ev_all (P := fun _ (m : Mm) (r : Int32 × Mm) => ab_kp m r.2) [(104, c_M_in)] (List.forall_mem_cons.mpr ⟨fun av m r h => kp_M_in h, fun q hq => by cases hq⟩)
  exact ab_kprel (ρ := .inl (some (.inl r.1), r.2)) (ab_tab_isn (t := t_M_about) (by decide +kernel)) hV hI (ab_rI_inv h)
set_option maxRecDepth 100000 in
theorem cl_M_about (l : Launch) : ∀ (pc : Nat) (q : Ent), i_M_about pc = some q → ab_inv q.1 = true → ab_CR l KT CL none ab_gW "StreamTransportModel" prog_12_method_50_code 5 1 22 eV_M_about eI_M_about pc q := by
  intro pc q hq hi
  have hm : pc ∈ cs_M_about := ab_tab_cs (t := t_M_about) (by decide +kernel) hq hi
  simp only [cs_M_about, List.mem_cons, List.not_mem_nil, or_false] at hm
  rcases hm with rfl | rfl
  · cases (Option.some.inj hq : ((.invokestatic 138, 104, 3, 1, 0) : Ent) = q)
    exact ab_crS (by decide +kernel) cw_M_in (ab_gW_in 1154 (by decide +kernel) rfl) st_M_in (by decide) (fun av m m' h => by cases h) (fun av m r h => cm_M_in l h) KT_nd
  · cases (Option.some.inj hq : ((.invokestatic 138, 104, 3, 1, 0) : Ent) = q)
    exact ab_crS (by decide +kernel) cw_M_in (ab_gW_in 1154 (by decide +kernel) rfl) st_M_in (by decide) (fun av m m' h => by cases h) (fun av m r h => cm_M_in l h) KT_nd
theorem cw_M_about : ab_cw y_M_about prog_12_method_50_code 5 2 (some .int) := ⟨ab_gW_in 1341 (by decide +kernel) rfl, ab_gW_in 71 (by decide +kernel) rfl, by decide +kernel, by decide +kernel, by decide +kernel⟩
theorem is_M_about : Cond.instanceMethod y_M_about ∈ ab_gW := ab_gW_in 1339 (by decide +kernel) rfl
theorem sl_M_about : Cond.selects "StreamTransportModel" y_M_about y_M_about ∈ ab_gW := ab_gW_in 1340 (by decide +kernel) rfl
set_option maxRecDepth 100000 in
theorem cm_M_about (l : Launch) {av : List AV} {m : Mm} {r : Int32 × Mm} (h0 : c_M_about av m = some r) : ∃ (k q : Nat) (av' : List AV) (ci : Nat) (fs : List (Nat × Nat × Nat × Nat)) (z : vw_C), av = .inr (.inr (k, some q)) :: av' ∧ av'.length = 2 ∧ k ≠ 0 ∧ KT[k]? = some (.inl (ci, fs)) ∧ CL[ci]? = some z ∧ z.1 = "StreamTransportModel" ∧ ab_nos av' ∧ ab_Met l KT CL y_M_about (Cond.code y_M_about prog_12_method_50_code 5 (some .int) :: ab_gW) 1 22 none av m (some (.inl r.1)) r.2 := by
  obtain ⟨v0, v1, v2, hav, h⟩ := c_M_about_inv h0
  rw [r_M_about_eq] at h
  have hmo : ab_mo m r.2 := ab_kp_mo (kp_M_about h0)
  subst hav
  exact ⟨_, _, _, _, _, _, rfl, rfl, by decide, rfl, rfl, rfl, (by intro v hv q e; subst e; simp at hv), ab_met (by decide +kernel) KT_0 KT_nd KT_k3 E_M_about (cl_M_about l) hmo (Nat.le_of_ble_eq_true rfl) (ab_rI_inv h) (fun v hv => by cases hv; exact ⟨_, rfl⟩)⟩
/-! StreamTransportModel.readable(I)I -/
def y_M_readable : MethodName := ⟨"StreamTransportModel", "readable", "(I)I"⟩
def t_M_readable (pc : Nat) : Option Ent :=
  bif Nat.blt pc 26 then
    (bif Nat.blt pc 10 then
      (bif Nat.blt pc 5 then
        (bif Nat.blt pc 1 then
          (bif Nat.beq pc 0 then some (.aload_n 0, 0, 0, 0, 0) else none)
        else
          bif Nat.blt pc 4 then
            (bif Nat.beq pc 1 then some (.getfield 47, 10, 16, 1, 0) else none)
          else
            bif Nat.beq pc 4 then some (.iload_n 1, 1, 0, 0, 0) else none)
      else
        bif Nat.blt pc 7 then
          (bif Nat.blt pc 6 then
            (bif Nat.beq pc 5 then some (.iaload, 0, 0, 0, 0) else none)
          else
            bif Nat.beq pc 6 then some (.istore_n 2, 2, 0, 0, 0) else none)
        else
          bif Nat.blt pc 8 then
            (bif Nat.beq pc 7 then some (.iload_n 2, 2, 0, 0, 0) else none)
          else
            bif Nat.beq pc 8 then some (.bipush 64, 0, 0, 0, 64) else none)
    else
      bif Nat.blt pc 18 then
        (bif Nat.blt pc 14 then
          (bif Nat.blt pc 13 then
            (bif Nat.beq pc 10 then some (.if_icmp .ge (32), 42, 0, 0, 0) else none)
          else
            bif Nat.beq pc 13 then some (.aload_n 0, 0, 0, 0, 0) else none)
        else
          bif Nat.blt pc 17 then
            (bif Nat.beq pc 14 then some (.getfield 53, 10, 18, 1, 0) else none)
          else
            bif Nat.beq pc 17 then some (.iload_n 1, 1, 0, 0, 0) else none)
      else
        bif Nat.blt pc 22 then
          (bif Nat.blt pc 19 then
            (bif Nat.beq pc 18 then some (.baload, 0, 0, 0, 0) else none)
          else
            bif Nat.beq pc 19 then some (.ifCond .ne (23), 42, 0, 0, 0) else none)
        else
          bif Nat.blt pc 23 then
            (bif Nat.beq pc 22 then some (.aload_n 0, 0, 0, 0, 0) else none)
          else
            bif Nat.beq pc 23 then some (.getfield 38, 10, 13, 1, 0) else none)
  else
    bif Nat.blt pc 39 then
      (bif Nat.blt pc 31 then
        (bif Nat.blt pc 29 then
          (bif Nat.blt pc 28 then
            (bif Nat.beq pc 26 then some (.bipush 64, 0, 0, 0, 64) else none)
          else
            bif Nat.beq pc 28 then some (.iload_n 1, 1, 0, 0, 0) else none)
        else
          bif Nat.blt pc 30 then
            (bif Nat.beq pc 29 then some (.imul, 0, 0, 0, 0) else none)
          else
            bif Nat.beq pc 30 then some (.iload_n 2, 2, 0, 0, 0) else none)
      else
        bif Nat.blt pc 33 then
          (bif Nat.blt pc 32 then
            (bif Nat.beq pc 31 then some (.iadd, 0, 0, 0, 0) else none)
          else
            bif Nat.beq pc 32 then some (.iaload, 0, 0, 0, 0) else none)
        else
          bif Nat.blt pc 36 then
            (bif Nat.beq pc 33 then some (.ifCond .lt (9), 42, 0, 0, 0) else none)
          else
            bif Nat.beq pc 36 then some (.iinc 2 1, 2, 0, 0, 1) else none)
    else
      bif Nat.blt pc 47 then
        (bif Nat.blt pc 43 then
          (bif Nat.blt pc 42 then
            (bif Nat.beq pc 39 then some (.goto (-32), 7, 0, 0, 0) else none)
          else
            bif Nat.beq pc 42 then some (.iload_n 2, 2, 0, 0, 0) else none)
        else
          bif Nat.blt pc 44 then
            (bif Nat.beq pc 43 then some (.aload_n 0, 0, 0, 0, 0) else none)
          else
            bif Nat.beq pc 44 then some (.getfield 47, 10, 16, 1, 0) else none)
      else
        bif Nat.blt pc 49 then
          (bif Nat.blt pc 48 then
            (bif Nat.beq pc 47 then some (.iload_n 1, 1, 0, 0, 0) else none)
          else
            bif Nat.beq pc 48 then some (.iaload, 0, 0, 0, 0) else none)
        else
          bif Nat.blt pc 50 then
            (bif Nat.beq pc 49 then some (.isub, 0, 0, 0, 0) else none)
          else
            bif Nat.beq pc 50 then some (.ireturn, 0, 0, 0, 0) else none
def i_M_readable : Nat → Option Ent := ab_tab 51 t_M_readable
def h_M_readable (pc : Nat) : Nat × List Bool := bif Nat.beq pc 7 then (1, [true, true, true]) else bif Nat.beq pc 42 then (1, [true, true, true]) else (0, [])
def s_M_readable (pc : Nat) : List (Int32 × Nat) × Nat := ([], 0)
noncomputable def eV_M_readable : Nat → List AV → Mm → Option Mm := ab_ev []
noncomputable def eI_M_readable : Nat → List AV → Mm → Option (Int32 × Mm) := ab_ev []
noncomputable def b_M_readable_0 (f : Nat) (v0 : Nat) (v1 : Int32) (m : Mm) : Option Rs := ab_ex KT none s_M_readable eV_M_readable eI_M_readable i_M_readable h_M_readable f 0 [some (.inr (.inr (28, some v0))), some (.inl v1), none] [] m
noncomputable def b_M_readable_7 (f : Nat) (v0 : Nat) (v1 : Int32) (v2 : Int32) (m : Mm) : Option Rs := ab_ex KT none s_M_readable eV_M_readable eI_M_readable i_M_readable h_M_readable f 7 [some (.inr (.inr (28, some v0))), some (.inl v1), some (.inl v2)] [] m
noncomputable def b_M_readable_42 (f : Nat) (v0 : Nat) (v1 : Int32) (v2 : Int32) (m : Mm) : Option Rs := ab_ex KT none s_M_readable eV_M_readable eI_M_readable i_M_readable h_M_readable f 42 [some (.inr (.inr (28, some v0))), some (.inl v1), some (.inl v2)] [] m
set_option maxRecDepth 100000 in
set_option maxHeartbeats 4000000 in
theorem b_M_readable_0_eq (f : Nat) (v0 : Nat) (v1 : Int32) (m : Mm) : b_M_readable_0 (f + 1) v0 v1 m =
    (ab_ix v1 8).bind fun i1 =>
    ab_let ((m.1 145 (v0 + 13) i1)) fun x2 =>
    b_M_readable_7 f v0 v1 x2 m := rfl
set_option maxRecDepth 100000 in
set_option maxHeartbeats 4000000 in
theorem b_M_readable_7_eq (f : Nat) (v0 : Nat) (v1 : Int32) (v2 : Int32) (m : Mm) : b_M_readable_7 (f + 1) v0 v1 v2 m =
    if (64 : Int32) ≤ v2 then
      b_M_readable_42 f v0 v1 v2 m
    else
      (ab_ix v1 8).bind fun i1 =>
      if (m.1 147 (v0 + 15) i1) = 0 then
        (ab_ix (((64 : Int32) * v1) + v2) 512).bind fun i2 =>
        if (m.1 142 (v0 + 10) i2) < 0 then
          b_M_readable_42 f v0 v1 v2 m
        else
          ab_let (v2 + (1 : Int32)) fun x3 =>
          b_M_readable_7 f v0 v1 x3 m
      else
        b_M_readable_42 f v0 v1 v2 m := rfl
set_option maxRecDepth 100000 in
set_option maxHeartbeats 4000000 in
theorem b_M_readable_42_eq (f : Nat) (v0 : Nat) (v1 : Int32) (v2 : Int32) (m : Mm) : b_M_readable_42 (f + 1) v0 v1 v2 m =
    (ab_ix v1 8).bind fun i1 =>
    some (.inl (some (.inl (v2 - (m.1 145 (v0 + 13) i1))), m)) := rfl
noncomputable def r_M_readable : Nat → Int32 → Mm → Option (Int32 × Mm) := ab_seal fun v0 v1 m => ab_rI (b_M_readable_0 50000 v0 v1 m)
theorem r_M_readable_eq (v0 : Nat) (v1 : Int32) (m : Mm) : r_M_readable v0 v1 m = ab_rI (b_M_readable_0 50000 v0 v1 m) := by
  unfold r_M_readable
  rw [ab_seal_eq]
noncomputable def c_M_readable : List AV → Mm → Option (Int32 × Mm) := fun av m => match av with
  | [.inr (.inr (kv0, ov0)), .inl v1] => if kv0 = 28 then (ov0.bind fun v0 => r_M_readable v0 v1 m) else none
  | _ => none
theorem c_M_readable_inv {av : List AV} {m : Mm} {r : Int32 × Mm} (h : c_M_readable av m = some r) : ∃ (v0 : Nat) (v1 : Int32), av = [.inr (.inr (28, some v0)), .inl v1] ∧ r_M_readable v0 v1 m = some r := by
  unfold c_M_readable at h
  split at h
  · rename_i kv0 ov0 v1
    by_cases hkv0 : kv0 = 28
    case neg => rw [if_neg hkv0] at h; cases h
    rw [if_pos hkv0] at h
    subst hkv0
    obtain ⟨v0, hev0, h⟩ := Option.bind_eq_some_iff.mp h
    subst hev0
    exact ⟨v0, v1, rfl, h⟩
  · cases h
def cs_M_readable : List Nat := []
set_option maxRecDepth 100000 in
theorem E_M_readable : ∀ (pc : Nat) (q : Ent), i_M_readable pc = some q → ab_E KT CL ab_gW "StreamTransportModel" "readable" (some .int) prog_12_method_52_code s_M_readable 3 pc q.1 q.2.1 q.2.2.1 q.2.2.2.1 q.2.2.2.2 := fun pc q hq =>
  ab_Eb_ok lc_M lj_M fl_M (fpn_M "readable") nw_M na_M nq_M (ab_tab_all (t := t_M_readable) (chk := fun pc q => ab_Eb (some .int) prog_12_method_52_code s_M_readable 3 LC_M LJ_M FL_M FPn_M NW_M NA_M NQ_M pc q.1 q.2.1 q.2.2.1 q.2.2.2.1 q.2.2.2.2) (by decide +kernel) hq)
set_option maxRecDepth 100000 in
theorem kp_M_readable {av : List AV} {m : Mm} {r : Int32 × Mm} (h : c_M_readable av m = some r) : ab_kp m r.2 := by
  obtain ⟨v0, v1, -, h⟩ := c_M_readable_inv h
  rw [r_M_readable_eq] at h
  have hV : ∀ a av m m', eV_M_readable a av m = some m' → ab_kp m m' := ab_ev_all (P := fun _ m r => ab_kp m r) [] (fun q hq => by cases hq)
  have hI : ∀ a av m q, eI_M_readable a av m = some q → ab_kp m q.2 := ab_ev_all (P := fun _ (m : Mm) (r : Int32 × Mm) => ab_kp m r.2) [] (fun q hq => by cases hq)
  exact ab_kprel (ρ := .inl (some (.inl r.1), r.2)) (ab_tab_isn (t := t_M_readable) (by decide +kernel)) hV hI (ab_rI_inv h)
set_option maxRecDepth 100000 in
theorem cl_M_readable (l : Launch) : ∀ (pc : Nat) (q : Ent), i_M_readable pc = some q → ab_inv q.1 = true → ab_CR l KT CL none ab_gW "StreamTransportModel" prog_12_method_52_code 3 0 0 eV_M_readable eI_M_readable pc q := by
  intro pc q hq hi
  have hm : pc ∈ cs_M_readable := ab_tab_cs (t := t_M_readable) (by decide +kernel) hq hi
  cases hm
theorem cw_M_readable : ab_cw y_M_readable prog_12_method_52_code 3 1 (some .int) := ⟨ab_gW_in 1349 (by decide +kernel) rfl, ab_gW_in 71 (by decide +kernel) rfl, by decide +kernel, by decide +kernel, by decide +kernel⟩
theorem is_M_readable : Cond.instanceMethod y_M_readable ∈ ab_gW := ab_gW_in 1348 (by decide +kernel) rfl
theorem sl_M_readable : Cond.selects "StreamTransportModel" y_M_readable y_M_readable ∈ ab_gW := ab_gW_in 59 (by decide +kernel) rfl
set_option maxRecDepth 100000 in
theorem cm_M_readable (l : Launch) {av : List AV} {m : Mm} {r : Int32 × Mm} (h0 : c_M_readable av m = some r) : ∃ (k q : Nat) (av' : List AV) (ci : Nat) (fs : List (Nat × Nat × Nat × Nat)) (z : vw_C), av = .inr (.inr (k, some q)) :: av' ∧ av'.length = 1 ∧ k ≠ 0 ∧ KT[k]? = some (.inl (ci, fs)) ∧ CL[ci]? = some z ∧ z.1 = "StreamTransportModel" ∧ ab_nos av' ∧ ab_Met l KT CL y_M_readable (Cond.code y_M_readable prog_12_method_52_code 3 (some .int) :: ab_gW) 0 0 none av m (some (.inl r.1)) r.2 := by
  obtain ⟨v0, v1, hav, h⟩ := c_M_readable_inv h0
  rw [r_M_readable_eq] at h
  have hmo : ab_mo m r.2 := ab_kp_mo (kp_M_readable h0)
  subst hav
  exact ⟨_, _, _, _, _, _, rfl, rfl, by decide, rfl, rfl, rfl, (by intro v hv q e; subst e; simp at hv), ab_met (by decide +kernel) KT_0 KT_nd KT_k3 E_M_readable (cl_M_readable l) hmo (Nat.le_of_ble_eq_true rfl) (ab_rI_inv h) (fun v hv => by cases hv; exact ⟨_, rfl⟩)⟩
/-! StreamTransportModel.stream(III)I -/
def y_M_stream : MethodName := ⟨"StreamTransportModel", "stream", "(III)I"⟩
def t_M_stream (pc : Nat) : Option Ent :=
  bif Nat.blt pc 117 then
    (bif Nat.blt pc 57 then
      (bif Nat.blt pc 28 then
        (bif Nat.blt pc 14 then
          (bif Nat.blt pc 6 then
            (bif Nat.blt pc 2 then
              (bif Nat.blt pc 1 then
                (bif Nat.beq pc 0 then some (.aload_n 0, 0, 0, 0, 0) else none)
              else
                bif Nat.beq pc 1 then some (.iconst 0, 0, 0, 0, 0) else none)
            else
              bif Nat.blt pc 5 then
                (bif Nat.beq pc 2 then some (.putfield 135, 10, 3, 0, 0) else none)
              else
                bif Nat.beq pc 5 then some (.iload_n 1, 1, 0, 0, 0) else none)
          else
            bif Nat.blt pc 10 then
              (bif Nat.blt pc 7 then
                (bif Nat.beq pc 6 then some (.iload_n 2, 2, 0, 0, 0) else none)
              else
                bif Nat.beq pc 7 then some (.invokestatic 142, 105, 2, 1, 0) else none)
            else
              bif Nat.blt pc 13 then
                (bif Nat.beq pc 10 then some (.ifCond .eq (13), 23, 0, 0, 0) else none)
              else
                bif Nat.beq pc 13 then some (.iload_n 3, 3, 0, 0, 0) else none)
        else
          bif Nat.blt pc 23 then
            (bif Nat.blt pc 17 then
              (bif Nat.blt pc 15 then
                (bif Nat.beq pc 14 then some (.iconst 0, 0, 0, 0, 0) else none)
              else
                bif Nat.beq pc 15 then some (.bipush 8, 0, 0, 0, 8) else none)
            else
              bif Nat.blt pc 20 then
                (bif Nat.beq pc 17 then some (.invokestatic 138, 104, 3, 1, 0) else none)
              else
                bif Nat.beq pc 20 then some (.ifCond .ne (5), 25, 0, 0, 0) else none)
          else
            bif Nat.blt pc 25 then
              (bif Nat.blt pc 24 then
                (bif Nat.beq pc 23 then some (.iconst (-1), 0, 0, 0, -1) else none)
              else
                bif Nat.beq pc 24 then some (.ireturn, 0, 0, 0, 0) else none)
            else
              bif Nat.blt pc 26 then
                (bif Nat.beq pc 25 then some (.iconst 4, 0, 0, 0, 4) else none)
              else
                bif Nat.blt pc 27 then
                  (bif Nat.beq pc 26 then some (.iload_n 1, 1, 0, 0, 0) else none)
                else
                  bif Nat.beq pc 27 then some (.imul, 0, 0, 0, 0) else none)
      else
        bif Nat.blt pc 43 then
          (bif Nat.blt pc 33 then
            (bif Nat.blt pc 30 then
              (bif Nat.blt pc 29 then
                (bif Nat.beq pc 28 then some (.iload_n 2, 2, 0, 0, 0) else none)
              else
                bif Nat.beq pc 29 then some (.iadd, 0, 0, 0, 0) else none)
            else
              bif Nat.blt pc 32 then
                (bif Nat.beq pc 30 then some (.istore 4, 4, 0, 0, 0) else none)
              else
                bif Nat.beq pc 32 then some (.iload_n 3, 3, 0, 0, 0) else none)
          else
            bif Nat.blt pc 37 then
              (bif Nat.blt pc 36 then
                (bif Nat.beq pc 33 then some (.ifCond .ne (11), 44, 0, 0, 0) else none)
              else
                bif Nat.beq pc 36 then some (.aload_n 0, 0, 0, 0, 0) else none)
            else
              bif Nat.blt pc 40 then
                (bif Nat.beq pc 37 then some (.getfield 16, 10, 6, 1, 0) else none)
              else
                bif Nat.blt pc 42 then
                  (bif Nat.beq pc 40 then some (.iload 4, 4, 0, 0, 0) else none)
                else
                  bif Nat.beq pc 42 then some (.iaload, 0, 0, 0, 0) else none)
        else
          bif Nat.blt pc 49 then
            (bif Nat.blt pc 45 then
              (bif Nat.blt pc 44 then
                (bif Nat.beq pc 43 then some (.ireturn, 0, 0, 0, 0) else none)
              else
                bif Nat.beq pc 44 then some (.iload_n 3, 3, 0, 0, 0) else none)
            else
              bif Nat.blt pc 46 then
                (bif Nat.beq pc 45 then some (.iconst 1, 0, 0, 0, 1) else none)
              else
                bif Nat.beq pc 46 then some (.if_icmp .ne (11), 57, 0, 0, 0) else none)
          else
            bif Nat.blt pc 53 then
              (bif Nat.blt pc 50 then
                (bif Nat.beq pc 49 then some (.aload_n 0, 0, 0, 0, 0) else none)
              else
                bif Nat.beq pc 50 then some (.getfield 19, 10, 7, 1, 0) else none)
            else
              bif Nat.blt pc 55 then
                (bif Nat.beq pc 53 then some (.iload 4, 4, 0, 0, 0) else none)
              else
                bif Nat.blt pc 56 then
                  (bif Nat.beq pc 55 then some (.iaload, 0, 0, 0, 0) else none)
                else
                  bif Nat.beq pc 56 then some (.ireturn, 0, 0, 0, 0) else none)
    else
      bif Nat.blt pc 84 then
        (bif Nat.blt pc 70 then
          (bif Nat.blt pc 63 then
            (bif Nat.blt pc 59 then
              (bif Nat.blt pc 58 then
                (bif Nat.beq pc 57 then some (.iload_n 3, 3, 0, 0, 0) else none)
              else
                bif Nat.beq pc 58 then some (.iconst 3, 0, 0, 0, 3) else none)
            else
              bif Nat.blt pc 62 then
                (bif Nat.beq pc 59 then some (.if_icmp .ne (11), 70, 0, 0, 0) else none)
              else
                bif Nat.beq pc 62 then some (.aload_n 0, 0, 0, 0, 0) else none)
          else
            bif Nat.blt pc 68 then
              (bif Nat.blt pc 66 then
                (bif Nat.beq pc 63 then some (.getfield 28, 10, 10, 1, 0) else none)
              else
                bif Nat.beq pc 66 then some (.iload 4, 4, 0, 0, 0) else none)
            else
              bif Nat.blt pc 69 then
                (bif Nat.beq pc 68 then some (.iaload, 0, 0, 0, 0) else none)
              else
                bif Nat.beq pc 69 then some (.ireturn, 0, 0, 0, 0) else none)
        else
          bif Nat.blt pc 76 then
            (bif Nat.blt pc 72 then
              (bif Nat.blt pc 71 then
                (bif Nat.beq pc 70 then some (.iload_n 3, 3, 0, 0, 0) else none)
              else
                bif Nat.beq pc 71 then some (.iconst 5, 0, 0, 0, 5) else none)
            else
              bif Nat.blt pc 75 then
                (bif Nat.beq pc 72 then some (.if_icmp .ne (11), 83, 0, 0, 0) else none)
              else
                bif Nat.beq pc 75 then some (.aload_n 0, 0, 0, 0, 0) else none)
          else
            bif Nat.blt pc 81 then
              (bif Nat.blt pc 79 then
                (bif Nat.beq pc 76 then some (.getfield 47, 10, 16, 1, 0) else none)
              else
                bif Nat.beq pc 79 then some (.iload 4, 4, 0, 0, 0) else none)
            else
              bif Nat.blt pc 82 then
                (bif Nat.beq pc 81 then some (.iaload, 0, 0, 0, 0) else none)
              else
                bif Nat.blt pc 83 then
                  (bif Nat.beq pc 82 then some (.ireturn, 0, 0, 0, 0) else none)
                else
                  bif Nat.beq pc 83 then some (.iload_n 3, 3, 0, 0, 0) else none)
      else
        bif Nat.blt pc 100 then
          (bif Nat.blt pc 93 then
            (bif Nat.blt pc 89 then
              (bif Nat.blt pc 86 then
                (bif Nat.beq pc 84 then some (.bipush 7, 0, 0, 0, 7) else none)
              else
                bif Nat.beq pc 86 then some (.if_icmp .ne (11), 97, 0, 0, 0) else none)
            else
              bif Nat.blt pc 90 then
                (bif Nat.beq pc 89 then some (.aload_n 0, 0, 0, 0, 0) else none)
              else
                bif Nat.beq pc 90 then some (.getfield 44, 10, 15, 1, 0) else none)
          else
            bif Nat.blt pc 96 then
              (bif Nat.blt pc 95 then
                (bif Nat.beq pc 93 then some (.iload 4, 4, 0, 0, 0) else none)
              else
                bif Nat.beq pc 95 then some (.iaload, 0, 0, 0, 0) else none)
            else
              bif Nat.blt pc 97 then
                (bif Nat.beq pc 96 then some (.ireturn, 0, 0, 0, 0) else none)
              else
                bif Nat.blt pc 98 then
                  (bif Nat.beq pc 97 then some (.iload_n 3, 3, 0, 0, 0) else none)
                else
                  bif Nat.beq pc 98 then some (.bipush 8, 0, 0, 0, 8) else none)
        else
          bif Nat.blt pc 109 then
            (bif Nat.blt pc 104 then
              (bif Nat.blt pc 103 then
                (bif Nat.beq pc 100 then some (.if_icmp .ne (11), 111, 0, 0, 0) else none)
              else
                bif Nat.beq pc 103 then some (.aload_n 0, 0, 0, 0, 0) else none)
            else
              bif Nat.blt pc 107 then
                (bif Nat.beq pc 104 then some (.getfield 50, 10, 17, 1, 0) else none)
              else
                bif Nat.beq pc 107 then some (.iload 4, 4, 0, 0, 0) else none)
          else
            bif Nat.blt pc 111 then
              (bif Nat.blt pc 110 then
                (bif Nat.beq pc 109 then some (.iaload, 0, 0, 0, 0) else none)
              else
                bif Nat.beq pc 110 then some (.ireturn, 0, 0, 0, 0) else none)
            else
              bif Nat.blt pc 112 then
                (bif Nat.beq pc 111 then some (.iload_n 3, 3, 0, 0, 0) else none)
              else
                bif Nat.blt pc 114 then
                  (bif Nat.beq pc 112 then some (.bipush 6, 0, 0, 0, 6) else none)
                else
                  bif Nat.beq pc 114 then some (.if_icmp .ne (10), 124, 0, 0, 0) else none)
  else
    bif Nat.blt pc 182 then
      (bif Nat.blt pc 148 then
        (bif Nat.blt pc 130 then
          (bif Nat.blt pc 124 then
            (bif Nat.blt pc 120 then
              (bif Nat.blt pc 118 then
                (bif Nat.beq pc 117 then some (.aload_n 0, 0, 0, 0, 0) else none)
              else
                bif Nat.beq pc 118 then some (.iload 4, 4, 0, 0, 0) else none)
            else
              bif Nat.blt pc 123 then
                (bif Nat.beq pc 120 then some (.invokevirtual 280, 151, 2, 1, 0) else none)
              else
                bif Nat.beq pc 123 then some (.ireturn, 0, 0, 0, 0) else none)
          else
            bif Nat.blt pc 127 then
              (bif Nat.blt pc 125 then
                (bif Nat.beq pc 124 then some (.iconst 0, 0, 0, 0, 0) else none)
              else
                bif Nat.beq pc 125 then some (.istore 5, 5, 0, 0, 0) else none)
            else
              bif Nat.blt pc 128 then
                (bif Nat.beq pc 127 then some (.iconst 0, 0, 0, 0, 0) else none)
              else
                bif Nat.beq pc 128 then some (.istore 6, 6, 0, 0, 0) else none)
        else
          bif Nat.blt pc 138 then
            (bif Nat.blt pc 133 then
              (bif Nat.blt pc 132 then
                (bif Nat.beq pc 130 then some (.iload 6, 6, 0, 0, 0) else none)
              else
                bif Nat.beq pc 132 then some (.aload_n 0, 0, 0, 0, 0) else none)
            else
              bif Nat.blt pc 136 then
                (bif Nat.beq pc 133 then some (.getfield 16, 10, 6, 1, 0) else none)
              else
                bif Nat.beq pc 136 then some (.iload 4, 4, 0, 0, 0) else none)
          else
            bif Nat.blt pc 142 then
              (bif Nat.blt pc 139 then
                (bif Nat.beq pc 138 then some (.iaload, 0, 0, 0, 0) else none)
              else
                bif Nat.beq pc 139 then some (.if_icmp .ge (37), 176, 0, 0, 0) else none)
            else
              bif Nat.blt pc 143 then
                (bif Nat.beq pc 142 then some (.aload_n 0, 0, 0, 0, 0) else none)
              else
                bif Nat.blt pc 146 then
                  (bif Nat.beq pc 143 then some (.getfield 13, 10, 5, 1, 0) else none)
                else
                  bif Nat.beq pc 146 then some (.bipush 64, 0, 0, 0, 64) else none)
      else
        bif Nat.blt pc 162 then
          (bif Nat.blt pc 154 then
            (bif Nat.blt pc 151 then
              (bif Nat.blt pc 150 then
                (bif Nat.beq pc 148 then some (.iload 4, 4, 0, 0, 0) else none)
              else
                bif Nat.beq pc 150 then some (.imul, 0, 0, 0, 0) else none)
            else
              bif Nat.blt pc 153 then
                (bif Nat.beq pc 151 then some (.iload 6, 6, 0, 0, 0) else none)
              else
                bif Nat.beq pc 153 then some (.iadd, 0, 0, 0, 0) else none)
          else
            bif Nat.blt pc 156 then
              (bif Nat.blt pc 155 then
                (bif Nat.beq pc 154 then some (.iaload, 0, 0, 0, 0) else none)
              else
                bif Nat.beq pc 155 then some (.iconst 3, 0, 0, 0, 3) else none)
            else
              bif Nat.blt pc 159 then
                (bif Nat.beq pc 156 then some (.if_icmp .ne (10), 166, 0, 0, 0) else none)
              else
                bif Nat.blt pc 161 then
                  (bif Nat.beq pc 159 then some (.iload 5, 5, 0, 0, 0) else none)
                else
                  bif Nat.beq pc 161 then some (.iconst 1, 0, 0, 0, 1) else none)
        else
          bif Nat.blt pc 170 then
            (bif Nat.blt pc 166 then
              (bif Nat.blt pc 163 then
                (bif Nat.beq pc 162 then some (.iadd, 0, 0, 0, 0) else none)
              else
                bif Nat.beq pc 163 then some (.goto 5, 168, 0, 0, 0) else none)
            else
              bif Nat.blt pc 168 then
                (bif Nat.beq pc 166 then some (.iload 5, 5, 0, 0, 0) else none)
              else
                bif Nat.beq pc 168 then some (.istore 5, 5, 0, 0, 0) else none)
          else
            bif Nat.blt pc 176 then
              (bif Nat.blt pc 173 then
                (bif Nat.beq pc 170 then some (.iinc 6 1, 6, 0, 0, 1) else none)
              else
                bif Nat.beq pc 173 then some (.goto (-43), 130, 0, 0, 0) else none)
            else
              bif Nat.blt pc 177 then
                (bif Nat.beq pc 176 then some (.aload_n 0, 0, 0, 0, 0) else none)
              else
                bif Nat.blt pc 180 then
                  (bif Nat.beq pc 177 then some (.getfield 31, 10, 11, 1, 0) else none)
                else
                  bif Nat.beq pc 180 then some (.iload 4, 4, 0, 0, 0) else none)
    else
      bif Nat.blt pc 214 then
        (bif Nat.blt pc 198 then
          (bif Nat.blt pc 189 then
            (bif Nat.blt pc 186 then
              (bif Nat.blt pc 183 then
                (bif Nat.beq pc 182 then some (.baload, 0, 0, 0, 0) else none)
              else
                bif Nat.beq pc 183 then some (.ifCond .eq (30), 213, 0, 0, 0) else none)
            else
              bif Nat.blt pc 188 then
                (bif Nat.beq pc 186 then some (.iload 5, 5, 0, 0, 0) else none)
              else
                bif Nat.beq pc 188 then some (.aload_n 0, 0, 0, 0, 0) else none)
          else
            bif Nat.blt pc 194 then
              (bif Nat.blt pc 192 then
                (bif Nat.beq pc 189 then some (.getfield 16, 10, 6, 1, 0) else none)
              else
                bif Nat.beq pc 192 then some (.iload 4, 4, 0, 0, 0) else none)
            else
              bif Nat.blt pc 195 then
                (bif Nat.beq pc 194 then some (.iaload, 0, 0, 0, 0) else none)
              else
                bif Nat.beq pc 195 then some (.if_icmp .ne (18), 213, 0, 0, 0) else none)
        else
          bif Nat.blt pc 205 then
            (bif Nat.blt pc 202 then
              (bif Nat.blt pc 199 then
                (bif Nat.beq pc 198 then some (.aload_n 0, 0, 0, 0, 0) else none)
              else
                bif Nat.beq pc 199 then some (.getfield 22, 10, 8, 1, 0) else none)
            else
              bif Nat.blt pc 204 then
                (bif Nat.beq pc 202 then some (.iload 4, 4, 0, 0, 0) else none)
              else
                bif Nat.beq pc 204 then some (.iaload, 0, 0, 0, 0) else none)
          else
            bif Nat.blt pc 209 then
              (bif Nat.blt pc 206 then
                (bif Nat.beq pc 205 then some (.iconst 3, 0, 0, 0, 3) else none)
              else
                bif Nat.beq pc 206 then some (.if_icmp .ne (7), 213, 0, 0, 0) else none)
            else
              bif Nat.blt pc 210 then
                (bif Nat.beq pc 209 then some (.iconst 1, 0, 0, 0, 1) else none)
              else
                bif Nat.blt pc 213 then
                  (bif Nat.beq pc 210 then some (.goto 4, 214, 0, 0, 0) else none)
                else
                  bif Nat.beq pc 213 then some (.iconst 0, 0, 0, 0, 0) else none)
      else
        bif Nat.blt pc 232 then
          (bif Nat.blt pc 221 then
            (bif Nat.blt pc 217 then
              (bif Nat.blt pc 216 then
                (bif Nat.beq pc 214 then some (.istore 6, 6, 0, 0, 0) else none)
              else
                bif Nat.beq pc 216 then some (.iload_n 3, 3, 0, 0, 0) else none)
            else
              bif Nat.blt pc 218 then
                (bif Nat.beq pc 217 then some (.iconst 2, 0, 0, 0, 2) else none)
              else
                bif Nat.beq pc 218 then some (.if_icmp .ne (8), 226, 0, 0, 0) else none)
          else
            bif Nat.blt pc 226 then
              (bif Nat.blt pc 223 then
                (bif Nat.beq pc 221 then some (.iload 5, 5, 0, 0, 0) else none)
              else
                bif Nat.beq pc 223 then some (.goto 24, 247, 0, 0, 0) else none)
            else
              bif Nat.blt pc 228 then
                (bif Nat.beq pc 226 then some (.iload 6, 6, 0, 0, 0) else none)
              else
                bif Nat.blt pc 231 then
                  (bif Nat.beq pc 228 then some (.ifCond .ne (14), 242, 0, 0, 0) else none)
                else
                  bif Nat.beq pc 231 then some (.aload_n 0, 0, 0, 0, 0) else none)
        else
          bif Nat.blt pc 239 then
            (bif Nat.blt pc 237 then
              (bif Nat.blt pc 235 then
                (bif Nat.beq pc 232 then some (.getfield 25, 10, 9, 1, 0) else none)
              else
                bif Nat.beq pc 235 then some (.iload 4, 4, 0, 0, 0) else none)
            else
              bif Nat.blt pc 238 then
                (bif Nat.beq pc 237 then some (.iaload, 0, 0, 0, 0) else none)
              else
                bif Nat.beq pc 238 then some (.iconst 3, 0, 0, 0, 3) else none)
          else
            bif Nat.blt pc 243 then
              (bif Nat.blt pc 242 then
                (bif Nat.beq pc 239 then some (.if_icmp .ne (7), 246, 0, 0, 0) else none)
              else
                bif Nat.beq pc 242 then some (.iconst 1, 0, 0, 0, 1) else none)
            else
              bif Nat.blt pc 246 then
                (bif Nat.beq pc 243 then some (.goto 4, 247, 0, 0, 0) else none)
              else
                bif Nat.blt pc 247 then
                  (bif Nat.beq pc 246 then some (.iconst 0, 0, 0, 0, 0) else none)
                else
                  bif Nat.beq pc 247 then some (.ireturn, 0, 0, 0, 0) else none
def i_M_stream : Nat → Option Ent := ab_tab 248 t_M_stream
def h_M_stream (pc : Nat) : Nat × List Bool := bif Nat.beq pc 130 then (1, [true, false, false, true, true, true, true]) else bif Nat.beq pc 168 then (1, [true, false, false, true, true, false, true]) else bif Nat.beq pc 213 then (1, [true, false, false, true, true, true, false]) else bif Nat.beq pc 214 then (1, [true, false, false, true, true, true, false]) else bif Nat.beq pc 242 then (1, [false, false, false, false, false, false, false]) else (0, [])
def s_M_stream (pc : Nat) : List (Int32 × Nat) × Nat := ([], 0)
noncomputable def eV_M_stream : Nat → List AV → Mm → Option Mm := ab_ev []
noncomputable def eI_M_stream : Nat → List AV → Mm → Option (Int32 × Mm) := ab_ev [(105, c_M_isStream), (104, c_M_in), (151, c_M_readable)]
noncomputable def b_M_stream_0 (f : Nat) (v0 : Nat) (v1 : Int32) (v2 : Int32) (v3 : Int32) (m : Mm) : Option Rs := ab_ex KT none s_M_stream eV_M_stream eI_M_stream i_M_stream h_M_stream f 0 [some (.inr (.inr (28, some v0))), some (.inl v1), some (.inl v2), some (.inl v3), none, none, none] [] m
noncomputable def b_M_stream_130 (f : Nat) (v0 : Nat) (v3 : Int32) (v4 : Int32) (v5 : Int32) (v6 : Int32) (m : Mm) : Option Rs := ab_ex KT none s_M_stream eV_M_stream eI_M_stream i_M_stream h_M_stream f 130 [some (.inr (.inr (28, some v0))), none, none, some (.inl v3), some (.inl v4), some (.inl v5), some (.inl v6)] [] m
noncomputable def b_M_stream_168 (f : Nat) (v0 : Nat) (v3 : Int32) (v4 : Int32) (v6 : Int32) (u0 : Int32) (m : Mm) : Option Rs := ab_ex KT none s_M_stream eV_M_stream eI_M_stream i_M_stream h_M_stream f 168 [some (.inr (.inr (28, some v0))), none, none, some (.inl v3), some (.inl v4), none, some (.inl v6)] [.inl u0] m
noncomputable def b_M_stream_213 (f : Nat) (v0 : Nat) (v3 : Int32) (v4 : Int32) (v5 : Int32) (m : Mm) : Option Rs := ab_ex KT none s_M_stream eV_M_stream eI_M_stream i_M_stream h_M_stream f 213 [some (.inr (.inr (28, some v0))), none, none, some (.inl v3), some (.inl v4), some (.inl v5), none] [] m
noncomputable def b_M_stream_214 (f : Nat) (v0 : Nat) (v3 : Int32) (v4 : Int32) (v5 : Int32) (u0 : Int32) (m : Mm) : Option Rs := ab_ex KT none s_M_stream eV_M_stream eI_M_stream i_M_stream h_M_stream f 214 [some (.inr (.inr (28, some v0))), none, none, some (.inl v3), some (.inl v4), some (.inl v5), none] [.inl u0] m
noncomputable def b_M_stream_242 (f : Nat)  (m : Mm) : Option Rs := ab_ex KT none s_M_stream eV_M_stream eI_M_stream i_M_stream h_M_stream f 242 [none, none, none, none, none, none, none] [] m
set_option maxRecDepth 100000 in
set_option maxHeartbeats 4000000 in
theorem b_M_stream_0_eq (f : Nat) (v0 : Nat) (v1 : Int32) (v2 : Int32) (v3 : Int32) (m : Mm) : b_M_stream_0 (f + 1) v0 v1 v2 v3 m =
    ab_let (ab_uI m 84 v0 0 (0 : Int32)) fun m1 =>
    (r_M_isStream v1 v2 m1).bind fun z2 =>
    if z2.1 = 0 then
      some (.inl (some (.inl (-1 : Int32)), z2.2))
    else
      (r_M_in v3 (0 : Int32) (8 : Int32) z2.2).bind fun z3 =>
      if z3.1 = 0 then
        some (.inl (some (.inl (-1 : Int32)), z3.2))
      else
        ab_let ((((4 : Int32) * v1) + v2)) fun x4 =>
        if v3 = 0 then
          (ab_ix x4 8).bind fun i11 =>
          some (.inl (some (.inl (z3.2.1 135 (v0 + 3) i11)), z3.2))
        else
          if v3 = (1 : Int32) then
            (ab_ix x4 8).bind fun i10 =>
            some (.inl (some (.inl (z3.2.1 136 (v0 + 4) i10)), z3.2))
          else
            if v3 = (3 : Int32) then
              (ab_ix x4 8).bind fun i9 =>
              some (.inl (some (.inl (z3.2.1 139 (v0 + 7) i9)), z3.2))
            else
              if v3 = (5 : Int32) then
                (ab_ix x4 8).bind fun i8 =>
                some (.inl (some (.inl (z3.2.1 145 (v0 + 13) i8)), z3.2))
              else
                if v3 = (7 : Int32) then
                  (ab_ix x4 8).bind fun i7 =>
                  some (.inl (some (.inl (z3.2.1 144 (v0 + 12) i7)), z3.2))
                else
                  if v3 = (8 : Int32) then
                    (ab_ix x4 8).bind fun i6 =>
                    some (.inl (some (.inl (z3.2.1 146 (v0 + 14) i6)), z3.2))
                  else
                    if v3 = (6 : Int32) then
                      (r_M_readable v0 x4 z3.2).bind fun z5 =>
                      some (.inl (some (.inl z5.1), z5.2))
                    else
                      b_M_stream_130 f v0 v3 x4 (0 : Int32) (0 : Int32) z3.2 := rfl
set_option maxRecDepth 100000 in
set_option maxHeartbeats 4000000 in
theorem b_M_stream_130_eq (f : Nat) (v0 : Nat) (v3 : Int32) (v4 : Int32) (v5 : Int32) (v6 : Int32) (m : Mm) : b_M_stream_130 (f + 1) v0 v3 v4 v5 v6 m =
    (ab_ix v4 8).bind fun i1 =>
    if (m.1 135 (v0 + 3) i1) ≤ v6 then
      (ab_ix v4 8).bind fun i2 =>
      if (m.1 140 (v0 + 8) i2) = 0 then
        b_M_stream_213 f v0 v3 v4 v5 m
      else
        (ab_ix v4 8).bind fun i3 =>
        if v5 = (m.1 135 (v0 + 3) i3) then
          (ab_ix v4 8).bind fun i4 =>
          if (m.1 137 (v0 + 5) i4) = (3 : Int32) then
            b_M_stream_214 f v0 v3 v4 v5 (1 : Int32) m
          else
            b_M_stream_213 f v0 v3 v4 v5 m
        else
          b_M_stream_213 f v0 v3 v4 v5 m
    else
      (ab_ix (((64 : Int32) * v4) + v6) 512).bind fun i5 =>
      if (m.1 134 (v0 + 2) i5) = (3 : Int32) then
        b_M_stream_168 f v0 v3 v4 v6 (v5 + (1 : Int32)) m
      else
        b_M_stream_168 f v0 v3 v4 v6 v5 m := rfl
set_option maxRecDepth 100000 in
set_option maxHeartbeats 4000000 in
theorem b_M_stream_168_eq (f : Nat) (v0 : Nat) (v3 : Int32) (v4 : Int32) (v6 : Int32) (u0 : Int32) (m : Mm) : b_M_stream_168 (f + 1) v0 v3 v4 v6 u0 m =
    ab_let (v6 + (1 : Int32)) fun x1 =>
    b_M_stream_130 f v0 v3 v4 u0 x1 m := rfl
set_option maxRecDepth 100000 in
set_option maxHeartbeats 4000000 in
theorem b_M_stream_213_eq (f : Nat) (v0 : Nat) (v3 : Int32) (v4 : Int32) (v5 : Int32) (m : Mm) : b_M_stream_213 (f + 1) v0 v3 v4 v5 m =
    b_M_stream_214 f v0 v3 v4 v5 (0 : Int32) m := rfl
set_option maxRecDepth 100000 in
set_option maxHeartbeats 4000000 in
theorem b_M_stream_214_eq (f : Nat) (v0 : Nat) (v3 : Int32) (v4 : Int32) (v5 : Int32) (u0 : Int32) (m : Mm) : b_M_stream_214 (f + 1) v0 v3 v4 v5 u0 m =
    if v3 = (2 : Int32) then
      some (.inl (some (.inl v5), m))
    else
      if u0 = 0 then
        (ab_ix v4 8).bind fun i1 =>
        if (m.1 138 (v0 + 6) i1) = (3 : Int32) then
          b_M_stream_242 f  m
        else
          some (.inl (some (.inl (0 : Int32)), m))
      else
        b_M_stream_242 f  m := rfl
set_option maxRecDepth 100000 in
set_option maxHeartbeats 4000000 in
theorem b_M_stream_242_eq (f : Nat)  (m : Mm) : b_M_stream_242 (f + 1)  m =
    some (.inl (some (.inl (1 : Int32)), m)) := rfl
noncomputable def r_M_stream : Nat → Int32 → Int32 → Int32 → Mm → Option (Int32 × Mm) := ab_seal fun v0 v1 v2 v3 m => ab_rI (b_M_stream_0 50000 v0 v1 v2 v3 m)
theorem r_M_stream_eq (v0 : Nat) (v1 : Int32) (v2 : Int32) (v3 : Int32) (m : Mm) : r_M_stream v0 v1 v2 v3 m = ab_rI (b_M_stream_0 50000 v0 v1 v2 v3 m) := by
  unfold r_M_stream
  rw [ab_seal_eq]
noncomputable def c_M_stream : List AV → Mm → Option (Int32 × Mm) := fun av m => match av with
  | [.inr (.inr (kv0, ov0)), .inl v1, .inl v2, .inl v3] => if kv0 = 28 then (ov0.bind fun v0 => r_M_stream v0 v1 v2 v3 m) else none
  | _ => none
theorem c_M_stream_inv {av : List AV} {m : Mm} {r : Int32 × Mm} (h : c_M_stream av m = some r) : ∃ (v0 : Nat) (v1 : Int32) (v2 : Int32) (v3 : Int32), av = [.inr (.inr (28, some v0)), .inl v1, .inl v2, .inl v3] ∧ r_M_stream v0 v1 v2 v3 m = some r := by
  unfold c_M_stream at h
  split at h
  · rename_i kv0 ov0 v1 v2 v3
    by_cases hkv0 : kv0 = 28
    case neg => rw [if_neg hkv0] at h; cases h
    rw [if_pos hkv0] at h
    subst hkv0
    obtain ⟨v0, hev0, h⟩ := Option.bind_eq_some_iff.mp h
    subst hev0
    exact ⟨v0, v1, v2, v3, rfl, h⟩
  · cases h
def cs_M_stream : List Nat := [7, 17, 120]
set_option maxRecDepth 100000 in
theorem E_M_stream : ∀ (pc : Nat) (q : Ent), i_M_stream pc = some q → ab_E KT CL ab_gW "StreamTransportModel" "stream" (some .int) prog_12_method_51_code s_M_stream 7 pc q.1 q.2.1 q.2.2.1 q.2.2.2.1 q.2.2.2.2 := fun pc q hq =>
  ab_Eb_ok lc_M lj_M fl_M (fpn_M "stream") nw_M na_M nq_M (ab_tab_all (t := t_M_stream) (chk := fun pc q => ab_Eb (some .int) prog_12_method_51_code s_M_stream 7 LC_M LJ_M FL_M FPn_M NW_M NA_M NQ_M pc q.1 q.2.1 q.2.2.1 q.2.2.2.1 q.2.2.2.2) (by decide +kernel) hq)
set_option maxRecDepth 100000 in
theorem kp_M_stream {av : List AV} {m : Mm} {r : Int32 × Mm} (h : c_M_stream av m = some r) : ab_kp m r.2 := by
  obtain ⟨v0, v1, v2, v3, -, h⟩ := c_M_stream_inv h
  rw [r_M_stream_eq] at h
  have hV : ∀ a av m m', eV_M_stream a av m = some m' → ab_kp m m' := ab_ev_all (P := fun _ m r => ab_kp m r) [] (fun q hq => by cases hq)
  have hI : ∀ a av m q, eI_M_stream a av m = some q → ab_kp m q.2 := ab_ev_all (P := fun _ (m : Mm) (r : Int32 × Mm) => ab_kp m r.2) [(105, c_M_isStream), (104, c_M_in), (151, c_M_readable)] (List.forall_mem_cons.mpr ⟨fun av m r h => kp_M_isStream h, List.forall_mem_cons.mpr ⟨fun av m r h => kp_M_in h, List.forall_mem_cons.mpr ⟨fun av m r h => kp_M_readable h, fun q hq => by cases hq⟩⟩⟩)
  exact ab_kprel (ρ := .inl (some (.inl r.1), r.2)) (ab_tab_isn (t := t_M_stream) (by decide +kernel)) hV hI (ab_rI_inv h)
set_option maxRecDepth 100000 in
theorem cl_M_stream (l : Launch) : ∀ (pc : Nat) (q : Ent), i_M_stream pc = some q → ab_inv q.1 = true → ab_CR l KT CL none ab_gW "StreamTransportModel" prog_12_method_51_code 7 2 43 eV_M_stream eI_M_stream pc q := by
  intro pc q hq hi
  have hm : pc ∈ cs_M_stream := ab_tab_cs (t := t_M_stream) (by decide +kernel) hq hi
  simp only [cs_M_stream, List.mem_cons, List.not_mem_nil, or_false] at hm
  rcases hm with rfl | rfl | rfl
  · cases (Option.some.inj hq : ((.invokestatic 142, 105, 2, 1, 0) : Ent) = q)
    exact ab_crS (by decide +kernel) cw_M_isStream (ab_gW_in 1151 (by decide +kernel) rfl) st_M_isStream (by decide) (fun av m m' h => by cases h) (fun av m r h => cm_M_isStream l h) KT_nd
  · cases (Option.some.inj hq : ((.invokestatic 138, 104, 3, 1, 0) : Ent) = q)
    exact ab_crS (by decide +kernel) cw_M_in (ab_gW_in 1154 (by decide +kernel) rfl) st_M_in (by decide) (fun av m m' h => by cases h) (fun av m r h => cm_M_in l h) KT_nd
  · cases (Option.some.inj hq : ((.invokevirtual 280, 151, 2, 1, 0) : Ent) = q)
    exact ab_crV (C := "StreamTransportModel") (by decide +kernel) cw_M_readable (ab_gW_in 1346 (by decide +kernel) rfl) is_M_readable sl_M_readable (by decide) (fun av m m' h => by cases h) (fun av m r h => cm_M_readable l h) KT_nd
theorem cw_M_stream : ab_cw y_M_stream prog_12_method_51_code 7 3 (some .int) := ⟨ab_gW_in 1345 (by decide +kernel) rfl, ab_gW_in 71 (by decide +kernel) rfl, by decide +kernel, by decide +kernel, by decide +kernel⟩
theorem is_M_stream : Cond.instanceMethod y_M_stream ∈ ab_gW := ab_gW_in 1343 (by decide +kernel) rfl
theorem sl_M_stream : Cond.selects "StreamTransportModel" y_M_stream y_M_stream ∈ ab_gW := ab_gW_in 1344 (by decide +kernel) rfl
set_option maxRecDepth 100000 in
theorem cm_M_stream (l : Launch) {av : List AV} {m : Mm} {r : Int32 × Mm} (h0 : c_M_stream av m = some r) : ∃ (k q : Nat) (av' : List AV) (ci : Nat) (fs : List (Nat × Nat × Nat × Nat)) (z : vw_C), av = .inr (.inr (k, some q)) :: av' ∧ av'.length = 3 ∧ k ≠ 0 ∧ KT[k]? = some (.inl (ci, fs)) ∧ CL[ci]? = some z ∧ z.1 = "StreamTransportModel" ∧ ab_nos av' ∧ ab_Met l KT CL y_M_stream (Cond.code y_M_stream prog_12_method_51_code 7 (some .int) :: ab_gW) 2 43 none av m (some (.inl r.1)) r.2 := by
  obtain ⟨v0, v1, v2, v3, hav, h⟩ := c_M_stream_inv h0
  rw [r_M_stream_eq] at h
  have hmo : ab_mo m r.2 := ab_kp_mo (kp_M_stream h0)
  subst hav
  exact ⟨_, _, _, _, _, _, rfl, rfl, by decide, rfl, rfl, rfl, (by intro v hv q e; subst e; simp at hv), ab_met (by decide +kernel) KT_0 KT_nd KT_k3 E_M_stream (cl_M_stream l) hmo (Nat.le_of_ble_eq_true rfl) (ab_rI_inv h) (fun v hv => by cases hv; exact ⟨_, rfl⟩)⟩
end
