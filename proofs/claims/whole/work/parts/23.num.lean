section
def FLp_Num : List ((Nat × Nat × Nat) × Nat) := [((9, 3, 0), 127), ((15, 3, 1), 128)]
def FL_Num : List (Nat × Nat × Nat) := [(9, 3, 0), (15, 3, 1)]
theorem fl_Num : ∀ q ∈ FL_Num, ab_fld CL ab_gW "StreamTransport$Numbers" q.1 q.2.1 q.2.2 := ab_flb_ok (own := "StreamTransport$Numbers") (l := FLp_Num) (by decide +kernel)
def FPnp_Num : List ((Nat × Nat × Nat) × Nat) := [((15, 3, 1), 128)]
def FPn_Num : List (Nat × Nat × Nat) := [(15, 3, 1)]
theorem fpn_Num (nm : String) : ∀ q ∈ FPn_Num, ∃ ty, ab_fldp CL ab_gW "StreamTransport$Numbers" nm q.1 q.2.1 q.2.2 ty ∧ ∀ (k t r k' d' : Nat), ab_fs KT q.2.1 q.2.2 k = some (t, r, k', d') → (t = 0 → ty = .int) ∧ (t = 1 → ty = .boolean) ∧ (t = 2 → ((∃ n, ty = .object n) ∨ ∃ t, ty = .array t) ∧ k' ≠ 0) := ab_fpb_ok (own := "StreamTransport$Numbers") (nm := nm) (l := FPnp_Num) (ab_fpn_ok (by decide +kernel))
def FPip_Num : List ((Nat × Nat × Nat) × Nat) := [((9, 3, 0), 127), ((15, 3, 1), 128)]
def FPi_Num : List (Nat × Nat × Nat) := [(9, 3, 0), (15, 3, 1)]
theorem fpi_Num : ∀ q ∈ FPi_Num, ∃ ty, ab_fldp CL ab_gW "StreamTransport$Numbers" "<init>" q.1 q.2.1 q.2.2 ty ∧ ∀ (k t r k' d' : Nat), ab_fs KT q.2.1 q.2.2 k = some (t, r, k', d') → (t = 0 → ty = .int) ∧ (t = 1 → ty = .boolean) ∧ (t = 2 → ((∃ n, ty = .object n) ∨ ∃ t, ty = .array t) ∧ k' ≠ 0) := ab_fpb_ok (own := "StreamTransport$Numbers") (nm := "<init>") (l := FPip_Num) (by decide +kernel)
def LCp_Num : List ((Nat × Int32) × Nat) := []
def LC_Num : List (Nat × Int32) := []
theorem lc_Num : ∀ q ∈ LC_Num, Cond.constant "StreamTransport$Numbers" q.1 q.2 ∈ ab_gW := ab_lcb (own := "StreamTransport$Numbers") (l := LCp_Num) (by decide +kernel)
def LJp_Num : List ((Nat × Nat) × Nat) := []
def LJ_Num : List (Nat × Nat) := []
theorem lj_Num : ∀ q ∈ LJ_Num, Cond.constantLong "StreamTransport$Numbers" q.1 (Int64.ofNat q.2) ∈ ab_gW := ab_ljb (own := "StreamTransport$Numbers") (l := LJp_Num) (by decide +kernel)
def NWp_Num : List ((Nat × Nat) × Nat × Nat × Nat) := []
def NW_Num : List (Nat × Nat) := []
theorem nw_Num : ∀ q ∈ NW_Num, ab_newok KT CL ab_gW "StreamTransport$Numbers" q.1 q.2 := ab_nwb_ok (own := "StreamTransport$Numbers") (l := NWp_Num) (by decide +kernel)
def NQp_Num : List ((Nat × Nat) × Nat) := []
def NQ_Num : List (Nat × Nat) := []
theorem nq_Num : ∀ q ∈ NQ_Num, ab_nqok KT CL ab_gW "StreamTransport$Numbers" q.1 q.2 := ab_nqb_ok (own := "StreamTransport$Numbers") (l := NQp_Num) (by decide +kernel)
def NA_Num : List (Nat × Nat) := [(0, 9)]
theorem na_Num : ∀ q ∈ NA_Num, (q.1 = 0 → ab_naok KT CL ab_gW .int q.2) ∧ (q.1 = 1 → ab_naok KT CL ab_gW .boolean q.2) ∧ (q.1 = 2 → ab_naok KT CL ab_gW .long q.2) := ab_nab_ok (by decide +kernel)
/-! StreamTransport$Numbers.has(I)Z -/
def y_Num_has : MethodName := ⟨"StreamTransport$Numbers", "has", "(I)Z"⟩
def t_Num_has (pc : Nat) : Option Ent :=
  bif Nat.blt pc 20 then
    (bif Nat.blt pc 11 then
      (bif Nat.blt pc 4 then
        (bif Nat.blt pc 1 then
          (bif Nat.beq pc 0 then some (.iload_n 1, 1, 0, 0, 0) else none)
        else
          bif Nat.beq pc 1 then some (.ifCond .lt (34), 35, 0, 0, 0) else none)
      else
        bif Nat.blt pc 5 then
          (bif Nat.beq pc 4 then some (.iload_n 1, 1, 0, 0, 0) else none)
        else
          bif Nat.blt pc 8 then
            (bif Nat.beq pc 5 then some (.sipush 10240, 0, 0, 0, 10240) else none)
          else
            bif Nat.beq pc 8 then some (.if_icmp .ge (27), 35, 0, 0, 0) else none)
    else
      bif Nat.blt pc 16 then
        (bif Nat.blt pc 12 then
          (bif Nat.beq pc 11 then some (.aload_n 0, 0, 0, 0, 0) else none)
        else
          bif Nat.blt pc 15 then
            (bif Nat.beq pc 12 then some (.getfield 9, 3, 0, 1, 0) else none)
          else
            bif Nat.beq pc 15 then some (.iload_n 1, 1, 0, 0, 0) else none)
      else
        bif Nat.blt pc 18 then
          (bif Nat.beq pc 16 then some (.bipush 32, 0, 0, 0, 32) else none)
        else
          bif Nat.blt pc 19 then
            (bif Nat.beq pc 18 then some (.idiv, 0, 0, 0, 0) else none)
          else
            bif Nat.beq pc 19 then some (.iaload, 0, 0, 0, 0) else none)
  else
    bif Nat.blt pc 27 then
      (bif Nat.blt pc 24 then
        (bif Nat.blt pc 21 then
          (bif Nat.beq pc 20 then some (.iload_n 1, 1, 0, 0, 0) else none)
        else
          bif Nat.blt pc 23 then
            (bif Nat.beq pc 21 then some (.bipush 32, 0, 0, 0, 32) else none)
          else
            bif Nat.beq pc 23 then some (.irem, 0, 0, 0, 0) else none)
      else
        bif Nat.blt pc 25 then
          (bif Nat.beq pc 24 then some (.iushr, 0, 0, 0, 0) else none)
        else
          bif Nat.blt pc 26 then
            (bif Nat.beq pc 25 then some (.iconst 1, 0, 0, 0, 1) else none)
          else
            bif Nat.beq pc 26 then some (.iand, 0, 0, 0, 0) else none)
    else
      bif Nat.blt pc 32 then
        (bif Nat.blt pc 28 then
          (bif Nat.beq pc 27 then some (.iconst 1, 0, 0, 0, 1) else none)
        else
          bif Nat.blt pc 31 then
            (bif Nat.beq pc 28 then some (.if_icmp .ne (7), 35, 0, 0, 0) else none)
          else
            bif Nat.beq pc 31 then some (.iconst 1, 0, 0, 0, 1) else none)
      else
        bif Nat.blt pc 35 then
          (bif Nat.beq pc 32 then some (.goto 4, 36, 0, 0, 0) else none)
        else
          bif Nat.blt pc 36 then
            (bif Nat.beq pc 35 then some (.iconst 0, 0, 0, 0, 0) else none)
          else
            bif Nat.beq pc 36 then some (.ireturn, 0, 0, 1, 0) else none
def i_Num_has : Nat → Option Ent := ab_tab 37 t_Num_has
def h_Num_has (pc : Nat) : Nat × List Bool := (0, [])
def s_Num_has (pc : Nat) : List (Int32 × Nat) × Nat := ([], 0)
noncomputable def eV_Num_has : Nat → List AV → Mm → Option Mm := ab_ev []
noncomputable def eI_Num_has : Nat → List AV → Mm → Option (Int32 × Mm) := ab_ev []
noncomputable def b_Num_has_0 (f : Nat) (v0 : Nat) (v1 : Int32) (m : Mm) : Option Rs := ab_ex KT none s_Num_has eV_Num_has eI_Num_has i_Num_has h_Num_has f 0 [some (.inr (.inr (8, some v0))), some (.inl v1)] [] m
set_option maxRecDepth 100000 in
set_option maxHeartbeats 4000000 in
theorem b_Num_has_0_eq (f : Nat) (v0 : Nat) (v1 : Int32) (m : Mm) : b_Num_has_0 (f + 1) v0 v1 m =
    if v1 < 0 then
      (ab_bo (0 : Int32)).bind fun y1 => some (.inl (some (.inl y1), m))
    else
      if (10240 : Int32) ≤ v1 then
        (ab_bo (0 : Int32)).bind fun y2 => some (.inl (some (.inl y2), m))
      else
        if (32 : Int32) = 0 then none else
        (ab_ix (v1 / (32 : Int32)) 320).bind fun i3 =>
        if (32 : Int32) = 0 then none else
        if ((((m.1 31 (v0 + 1) i3)).toUInt32 >>> (((v1 - v1 / (32 : Int32) * (32 : Int32))).toUInt32 &&& Int32.toUInt32 31)).toInt32 &&& (1 : Int32)) = (1 : Int32) then
          (ab_bo (1 : Int32)).bind fun y5 => some (.inl (some (.inl y5), m))
        else
          (ab_bo (0 : Int32)).bind fun y4 => some (.inl (some (.inl y4), m)) := rfl
noncomputable def r_Num_has : Nat → Int32 → Mm → Option (Int32 × Mm) := ab_seal fun v0 v1 m => ab_rI (b_Num_has_0 50000 v0 v1 m)
theorem r_Num_has_eq (v0 : Nat) (v1 : Int32) (m : Mm) : r_Num_has v0 v1 m = ab_rI (b_Num_has_0 50000 v0 v1 m) := by
  unfold r_Num_has
  rw [ab_seal_eq]
noncomputable def c_Num_has : List AV → Mm → Option (Int32 × Mm) := fun av m => match av with
  | [.inr (.inr (kv0, ov0)), .inl v1] => if kv0 = 8 then (ov0.bind fun v0 => r_Num_has v0 v1 m) else none
  | _ => none
theorem c_Num_has_inv {av : List AV} {m : Mm} {r : Int32 × Mm} (h : c_Num_has av m = some r) : ∃ (v0 : Nat) (v1 : Int32), av = [.inr (.inr (8, some v0)), .inl v1] ∧ r_Num_has v0 v1 m = some r := by
  unfold c_Num_has at h
  split at h
  · rename_i kv0 ov0 v1
    by_cases hkv0 : kv0 = 8
    case neg => rw [if_neg hkv0] at h; cases h
    rw [if_pos hkv0] at h
    subst hkv0
    obtain ⟨v0, hev0, h⟩ := Option.bind_eq_some_iff.mp h
    subst hev0
    exact ⟨v0, v1, rfl, h⟩
  · cases h
def cs_Num_has : List Nat := []
set_option maxRecDepth 100000 in
theorem E_Num_has : ∀ (pc : Nat) (q : Ent), i_Num_has pc = some q → ab_E KT CL ab_gW "StreamTransport$Numbers" "has" (some .boolean) prog_5_method_2_code s_Num_has 2 pc q.1 q.2.1 q.2.2.1 q.2.2.2.1 q.2.2.2.2 := fun pc q hq =>
  ab_Eb_ok lc_Num lj_Num fl_Num (fpn_Num "has") nw_Num na_Num nq_Num (ab_tab_all (t := t_Num_has) (chk := fun pc q => ab_Eb (some .boolean) prog_5_method_2_code s_Num_has 2 LC_Num LJ_Num FL_Num FPn_Num NW_Num NA_Num NQ_Num pc q.1 q.2.1 q.2.2.1 q.2.2.2.1 q.2.2.2.2) (by decide +kernel) hq)
set_option maxRecDepth 100000 in
theorem kp_Num_has {av : List AV} {m : Mm} {r : Int32 × Mm} (h : c_Num_has av m = some r) : ab_kp m r.2 := by
  obtain ⟨v0, v1, -, h⟩ := c_Num_has_inv h
  rw [r_Num_has_eq] at h
  have hV : ∀ a av m m', eV_Num_has a av m = some m' → ab_kp m m' := ab_ev_all (P := fun _ m r => ab_kp m r) [] (fun q hq => by cases hq)
  have hI : ∀ a av m q, eI_Num_has a av m = some q → ab_kp m q.2 := ab_ev_all (P := fun _ (m : Mm) (r : Int32 × Mm) => ab_kp m r.2) [] (fun q hq => by cases hq)
  exact ab_kprel (ρ := .inl (some (.inl r.1), r.2)) (ab_tab_isn (t := t_Num_has) (by decide +kernel)) hV hI (ab_rI_inv h)
set_option maxRecDepth 100000 in
theorem cl_Num_has (l : Launch) : ∀ (pc : Nat) (q : Ent), i_Num_has pc = some q → ab_inv q.1 = true → ab_CR l KT CL none ab_gW "StreamTransport$Numbers" prog_5_method_2_code 2 0 0 eV_Num_has eI_Num_has pc q := by
  intro pc q hq hi
  have hm : pc ∈ cs_Num_has := ab_tab_cs (t := t_Num_has) (by decide +kernel) hq hi
  cases hm
theorem cw_Num_has : ab_cw y_Num_has prog_5_method_2_code 2 1 (some .boolean) := ⟨ab_gW_in 468 (by decide +kernel) rfl, ab_gW_in 64 (by decide +kernel) rfl, by decide +kernel, by decide +kernel, by decide +kernel⟩
theorem is_Num_has : Cond.instanceMethod y_Num_has ∈ ab_gW := ab_gW_in 466 (by decide +kernel) rfl
theorem sl_Num_has : Cond.selects "StreamTransport$Numbers" y_Num_has y_Num_has ∈ ab_gW := ab_gW_in 467 (by decide +kernel) rfl
set_option maxRecDepth 100000 in
theorem cm_Num_has (l : Launch) {av : List AV} {m : Mm} {r : Int32 × Mm} (h0 : c_Num_has av m = some r) : ∃ (k q : Nat) (av' : List AV) (ci : Nat) (fs : List (Nat × Nat × Nat × Nat)) (z : vw_C), av = .inr (.inr (k, some q)) :: av' ∧ av'.length = 1 ∧ k ≠ 0 ∧ KT[k]? = some (.inl (ci, fs)) ∧ CL[ci]? = some z ∧ z.1 = "StreamTransport$Numbers" ∧ ab_nos av' ∧ ab_Met l KT CL y_Num_has (Cond.code y_Num_has prog_5_method_2_code 2 (some .boolean) :: ab_gW) 0 0 none av m (some (.inl r.1)) r.2 := by
  obtain ⟨v0, v1, hav, h⟩ := c_Num_has_inv h0
  rw [r_Num_has_eq] at h
  have hmo : ab_mo m r.2 := ab_kp_mo (kp_Num_has h0)
  subst hav
  exact ⟨_, _, _, _, _, _, rfl, rfl, by decide, rfl, rfl, rfl, (by intro v hv q e; subst e; simp at hv), ab_met (by decide +kernel) KT_0 KT_nd KT_k3 E_Num_has (cl_Num_has l) hmo (Nat.le_of_ble_eq_true rfl) (ab_rI_inv h) (fun v hv => by cases hv; exact ⟨_, rfl⟩)⟩
/-! StreamTransport$Numbers.canHold(I)Z -/
def y_Num_canHold : MethodName := ⟨"StreamTransport$Numbers", "canHold", "(I)Z"⟩
def t_Num_canHold (pc : Nat) : Option Ent :=
  bif Nat.blt pc 8 then
    (bif Nat.blt pc 4 then
      (bif Nat.blt pc 1 then
        (bif Nat.beq pc 0 then some (.iload_n 1, 1, 0, 0, 0) else none)
      else
        bif Nat.beq pc 1 then some (.ifCond .lt (14), 15, 0, 0, 0) else none)
    else
      bif Nat.blt pc 5 then
        (bif Nat.beq pc 4 then some (.iload_n 1, 1, 0, 0, 0) else none)
      else
        bif Nat.beq pc 5 then some (.sipush 10240, 0, 0, 0, 10240) else none)
  else
    bif Nat.blt pc 12 then
      (bif Nat.blt pc 11 then
        (bif Nat.beq pc 8 then some (.if_icmp .ge (7), 15, 0, 0, 0) else none)
      else
        bif Nat.beq pc 11 then some (.iconst 1, 0, 0, 0, 1) else none)
    else
      bif Nat.blt pc 15 then
        (bif Nat.beq pc 12 then some (.goto 4, 16, 0, 0, 0) else none)
      else
        bif Nat.blt pc 16 then
          (bif Nat.beq pc 15 then some (.iconst 0, 0, 0, 0, 0) else none)
        else
          bif Nat.beq pc 16 then some (.ireturn, 0, 0, 1, 0) else none
def i_Num_canHold : Nat → Option Ent := ab_tab 17 t_Num_canHold
def h_Num_canHold (pc : Nat) : Nat × List Bool := (0, [])
def s_Num_canHold (pc : Nat) : List (Int32 × Nat) × Nat := ([], 0)
noncomputable def eV_Num_canHold : Nat → List AV → Mm → Option Mm := ab_ev []
noncomputable def eI_Num_canHold : Nat → List AV → Mm → Option (Int32 × Mm) := ab_ev []
noncomputable def b_Num_canHold_0 (f : Nat) (v0 : Nat) (v1 : Int32) (m : Mm) : Option Rs := ab_ex KT none s_Num_canHold eV_Num_canHold eI_Num_canHold i_Num_canHold h_Num_canHold f 0 [some (.inr (.inr (8, some v0))), some (.inl v1)] [] m
set_option maxRecDepth 100000 in
set_option maxHeartbeats 4000000 in
theorem b_Num_canHold_0_eq (f : Nat) (v0 : Nat) (v1 : Int32) (m : Mm) : b_Num_canHold_0 (f + 1) v0 v1 m =
    if v1 < 0 then
      (ab_bo (0 : Int32)).bind fun y1 => some (.inl (some (.inl y1), m))
    else
      if (10240 : Int32) ≤ v1 then
        (ab_bo (0 : Int32)).bind fun y2 => some (.inl (some (.inl y2), m))
      else
        (ab_bo (1 : Int32)).bind fun y3 => some (.inl (some (.inl y3), m)) := rfl
noncomputable def r_Num_canHold : Nat → Int32 → Mm → Option (Int32 × Mm) := ab_seal fun v0 v1 m => ab_rI (b_Num_canHold_0 50000 v0 v1 m)
theorem r_Num_canHold_eq (v0 : Nat) (v1 : Int32) (m : Mm) : r_Num_canHold v0 v1 m = ab_rI (b_Num_canHold_0 50000 v0 v1 m) := by
  unfold r_Num_canHold
  rw [ab_seal_eq]
noncomputable def c_Num_canHold : List AV → Mm → Option (Int32 × Mm) := fun av m => match av with
  | [.inr (.inr (kv0, ov0)), .inl v1] => if kv0 = 8 then (ov0.bind fun v0 => r_Num_canHold v0 v1 m) else none
  | _ => none
theorem c_Num_canHold_inv {av : List AV} {m : Mm} {r : Int32 × Mm} (h : c_Num_canHold av m = some r) : ∃ (v0 : Nat) (v1 : Int32), av = [.inr (.inr (8, some v0)), .inl v1] ∧ r_Num_canHold v0 v1 m = some r := by
  unfold c_Num_canHold at h
  split at h
  · rename_i kv0 ov0 v1
    by_cases hkv0 : kv0 = 8
    case neg => rw [if_neg hkv0] at h; cases h
    rw [if_pos hkv0] at h
    subst hkv0
    obtain ⟨v0, hev0, h⟩ := Option.bind_eq_some_iff.mp h
    subst hev0
    exact ⟨v0, v1, rfl, h⟩
  · cases h
def cs_Num_canHold : List Nat := []
set_option maxRecDepth 100000 in
theorem E_Num_canHold : ∀ (pc : Nat) (q : Ent), i_Num_canHold pc = some q → ab_E KT CL ab_gW "StreamTransport$Numbers" "canHold" (some .boolean) prog_5_method_3_code s_Num_canHold 2 pc q.1 q.2.1 q.2.2.1 q.2.2.2.1 q.2.2.2.2 := fun pc q hq =>
  ab_Eb_ok lc_Num lj_Num fl_Num (fpn_Num "canHold") nw_Num na_Num nq_Num (ab_tab_all (t := t_Num_canHold) (chk := fun pc q => ab_Eb (some .boolean) prog_5_method_3_code s_Num_canHold 2 LC_Num LJ_Num FL_Num FPn_Num NW_Num NA_Num NQ_Num pc q.1 q.2.1 q.2.2.1 q.2.2.2.1 q.2.2.2.2) (by decide +kernel) hq)
set_option maxRecDepth 100000 in
theorem kp_Num_canHold {av : List AV} {m : Mm} {r : Int32 × Mm} (h : c_Num_canHold av m = some r) : ab_kp m r.2 := by
  obtain ⟨v0, v1, -, h⟩ := c_Num_canHold_inv h
  rw [r_Num_canHold_eq] at h
  have hV : ∀ a av m m', eV_Num_canHold a av m = some m' → ab_kp m m' := ab_ev_all (P := fun _ m r => ab_kp m r) [] (fun q hq => by cases hq)
  have hI : ∀ a av m q, eI_Num_canHold a av m = some q → ab_kp m q.2 := ab_ev_all (P := fun _ (m : Mm) (r : Int32 × Mm) => ab_kp m r.2) [] (fun q hq => by cases hq)
  exact ab_kprel (ρ := .inl (some (.inl r.1), r.2)) (ab_tab_isn (t := t_Num_canHold) (by decide +kernel)) hV hI (ab_rI_inv h)
set_option maxRecDepth 100000 in
theorem cl_Num_canHold (l : Launch) : ∀ (pc : Nat) (q : Ent), i_Num_canHold pc = some q → ab_inv q.1 = true → ab_CR l KT CL none ab_gW "StreamTransport$Numbers" prog_5_method_3_code 2 0 0 eV_Num_canHold eI_Num_canHold pc q := by
  intro pc q hq hi
  have hm : pc ∈ cs_Num_canHold := ab_tab_cs (t := t_Num_canHold) (by decide +kernel) hq hi
  cases hm
theorem cw_Num_canHold : ab_cw y_Num_canHold prog_5_method_3_code 2 1 (some .boolean) := ⟨ab_gW_in 624 (by decide +kernel) rfl, ab_gW_in 64 (by decide +kernel) rfl, by decide +kernel, by decide +kernel, by decide +kernel⟩
theorem is_Num_canHold : Cond.instanceMethod y_Num_canHold ∈ ab_gW := ab_gW_in 622 (by decide +kernel) rfl
theorem sl_Num_canHold : Cond.selects "StreamTransport$Numbers" y_Num_canHold y_Num_canHold ∈ ab_gW := ab_gW_in 623 (by decide +kernel) rfl
set_option maxRecDepth 100000 in
theorem cm_Num_canHold (l : Launch) {av : List AV} {m : Mm} {r : Int32 × Mm} (h0 : c_Num_canHold av m = some r) : ∃ (k q : Nat) (av' : List AV) (ci : Nat) (fs : List (Nat × Nat × Nat × Nat)) (z : vw_C), av = .inr (.inr (k, some q)) :: av' ∧ av'.length = 1 ∧ k ≠ 0 ∧ KT[k]? = some (.inl (ci, fs)) ∧ CL[ci]? = some z ∧ z.1 = "StreamTransport$Numbers" ∧ ab_nos av' ∧ ab_Met l KT CL y_Num_canHold (Cond.code y_Num_canHold prog_5_method_3_code 2 (some .boolean) :: ab_gW) 0 0 none av m (some (.inl r.1)) r.2 := by
  obtain ⟨v0, v1, hav, h⟩ := c_Num_canHold_inv h0
  rw [r_Num_canHold_eq] at h
  have hmo : ab_mo m r.2 := ab_kp_mo (kp_Num_canHold h0)
  subst hav
  exact ⟨_, _, _, _, _, _, rfl, rfl, by decide, rfl, rfl, rfl, (by intro v hv q e; subst e; simp at hv), ab_met (by decide +kernel) KT_0 KT_nd KT_k3 E_Num_canHold (cl_Num_canHold l) hmo (Nat.le_of_ble_eq_true rfl) (ab_rI_inv h) (fun v hv => by cases hv; exact ⟨_, rfl⟩)⟩
/-! StreamTransport$Numbers.add(I)V -/
def y_Num_add : MethodName := ⟨"StreamTransport$Numbers", "add", "(I)V"⟩
def t_Num_add (pc : Nat) : Option Ent :=
  bif Nat.blt pc 19 then
    (bif Nat.blt pc 12 then
      (bif Nat.blt pc 5 then
        (bif Nat.blt pc 1 then
          (bif Nat.beq pc 0 then some (.aload_n 0, 0, 0, 0, 0) else none)
        else
          bif Nat.blt pc 2 then
            (bif Nat.beq pc 1 then some (.iload_n 1, 1, 0, 0, 0) else none)
          else
            bif Nat.beq pc 2 then some (.invokevirtual 19, 16, 2, 1, 0) else none)
      else
        bif Nat.blt pc 8 then
          (bif Nat.beq pc 5 then some (.ifCond .eq (33), 38, 0, 0, 0) else none)
        else
          bif Nat.blt pc 9 then
            (bif Nat.beq pc 8 then some (.aload_n 0, 0, 0, 0, 0) else none)
          else
            bif Nat.beq pc 9 then some (.getfield 9, 3, 0, 1, 0) else none)
    else
      bif Nat.blt pc 16 then
        (bif Nat.blt pc 13 then
          (bif Nat.beq pc 12 then some (.iload_n 1, 1, 0, 0, 0) else none)
        else
          bif Nat.blt pc 15 then
            (bif Nat.beq pc 13 then some (.bipush 32, 0, 0, 0, 32) else none)
          else
            bif Nat.beq pc 15 then some (.idiv, 0, 0, 0, 0) else none)
      else
        bif Nat.blt pc 17 then
          (bif Nat.beq pc 16 then some (.dup2, 0, 0, 0, 0) else none)
        else
          bif Nat.blt pc 18 then
            (bif Nat.beq pc 17 then some (.iaload, 0, 0, 0, 0) else none)
          else
            bif Nat.beq pc 18 then some (.iconst 1, 0, 0, 0, 1) else none)
  else
    bif Nat.blt pc 26 then
      (bif Nat.blt pc 23 then
        (bif Nat.blt pc 20 then
          (bif Nat.beq pc 19 then some (.iload_n 1, 1, 0, 0, 0) else none)
        else
          bif Nat.blt pc 22 then
            (bif Nat.beq pc 20 then some (.bipush 32, 0, 0, 0, 32) else none)
          else
            bif Nat.beq pc 22 then some (.irem, 0, 0, 0, 0) else none)
      else
        bif Nat.blt pc 24 then
          (bif Nat.beq pc 23 then some (.ishl, 0, 0, 0, 0) else none)
        else
          bif Nat.blt pc 25 then
            (bif Nat.beq pc 24 then some (.ior, 0, 0, 0, 0) else none)
          else
            bif Nat.beq pc 25 then some (.iastore, 0, 0, 0, 0) else none)
    else
      bif Nat.blt pc 31 then
        (bif Nat.blt pc 27 then
          (bif Nat.beq pc 26 then some (.aload_n 0, 0, 0, 0, 0) else none)
        else
          bif Nat.blt pc 28 then
            (bif Nat.beq pc 27 then some (.aload_n 0, 0, 0, 0, 0) else none)
          else
            bif Nat.beq pc 28 then some (.getfield 15, 3, 1, 0, 0) else none)
      else
        bif Nat.blt pc 35 then
          (bif Nat.blt pc 32 then
            (bif Nat.beq pc 31 then some (.iload_n 1, 1, 0, 0, 0) else none)
          else
            bif Nat.beq pc 32 then some (.invokestatic 23, 1, 2, 1, 0) else none)
        else
          bif Nat.blt pc 38 then
            (bif Nat.beq pc 35 then some (.putfield 15, 3, 1, 0, 0) else none)
          else
            bif Nat.beq pc 38 then some (.return_, 0, 0, 0, 0) else none
def i_Num_add : Nat → Option Ent := ab_tab 39 t_Num_add
def h_Num_add (pc : Nat) : Nat × List Bool := (0, [])
def s_Num_add (pc : Nat) : List (Int32 × Nat) × Nat := ([], 0)
noncomputable def eV_Num_add : Nat → List AV → Mm → Option Mm := ab_ev []
noncomputable def eI_Num_add : Nat → List AV → Mm → Option (Int32 × Mm) := ab_ev [(16, c_Num_canHold), (1, c_Math_max)]
noncomputable def b_Num_add_0 (f : Nat) (v0 : Nat) (v1 : Int32) (m : Mm) : Option Rs := ab_ex KT none s_Num_add eV_Num_add eI_Num_add i_Num_add h_Num_add f 0 [some (.inr (.inr (8, some v0))), some (.inl v1)] [] m
set_option maxRecDepth 100000 in
set_option maxHeartbeats 4000000 in
theorem b_Num_add_0_eq (f : Nat) (v0 : Nat) (v1 : Int32) (m : Mm) : b_Num_add_0 (f + 1) v0 v1 m =
    (r_Num_canHold v0 v1 m).bind fun z1 =>
    if z1.1 = 0 then
      some (.inl (none, z1.2))
    else
      if (32 : Int32) = 0 then none else
      (ab_ix (v1 / (32 : Int32)) 320).bind fun i2 =>
      if (32 : Int32) = 0 then none else
      (ab_ix (v1 / (32 : Int32)) 320).bind fun i3 =>
      ab_let (ab_uI z1.2 31 (v0 + 1) i3 ((z1.2.1 31 (v0 + 1) i2) ||| ((1 : Int32) <<< ((v1 - v1 / (32 : Int32) * (32 : Int32)) &&& 31)))) fun m4 =>
      (r_Math_max (m4.1 30 v0 0) v1 m4).bind fun z5 =>
      ab_let (ab_uI z5.2 30 v0 0 z5.1) fun m6 =>
      some (.inl (none, m6)) := rfl
noncomputable def r_Num_add : Nat → Int32 → Mm → Option Mm := ab_seal fun v0 v1 m => ab_rV (b_Num_add_0 50000 v0 v1 m)
theorem r_Num_add_eq (v0 : Nat) (v1 : Int32) (m : Mm) : r_Num_add v0 v1 m = ab_rV (b_Num_add_0 50000 v0 v1 m) := by
  unfold r_Num_add
  rw [ab_seal_eq]
noncomputable def c_Num_add : List AV → Mm → Option Mm := fun av m => match av with
  | [.inr (.inr (kv0, ov0)), .inl v1] => if kv0 = 8 then (ov0.bind fun v0 => r_Num_add v0 v1 m) else none
  | _ => none
theorem c_Num_add_inv {av : List AV} {m : Mm} {r : Mm} (h : c_Num_add av m = some r) : ∃ (v0 : Nat) (v1 : Int32), av = [.inr (.inr (8, some v0)), .inl v1] ∧ r_Num_add v0 v1 m = some r := by
  unfold c_Num_add at h
  split at h
  · rename_i kv0 ov0 v1
    by_cases hkv0 : kv0 = 8
    case neg => rw [if_neg hkv0] at h; cases h
    rw [if_pos hkv0] at h
    subst hkv0
    obtain ⟨v0, hev0, h⟩ := Option.bind_eq_some_iff.mp h
    subst hev0
    exact ⟨v0, v1, rfl, h⟩
  · cases h
def cs_Num_add : List Nat := [2, 32]
set_option maxRecDepth 100000 in
theorem E_Num_add : ∀ (pc : Nat) (q : Ent), i_Num_add pc = some q → ab_E KT CL ab_gW "StreamTransport$Numbers" "add" none prog_5_method_4_code s_Num_add 2 pc q.1 q.2.1 q.2.2.1 q.2.2.2.1 q.2.2.2.2 := fun pc q hq =>
  ab_Eb_ok lc_Num lj_Num fl_Num (fpn_Num "add") nw_Num na_Num nq_Num (ab_tab_all (t := t_Num_add) (chk := fun pc q => ab_Eb none prog_5_method_4_code s_Num_add 2 LC_Num LJ_Num FL_Num FPn_Num NW_Num NA_Num NQ_Num pc q.1 q.2.1 q.2.2.1 q.2.2.2.1 q.2.2.2.2) (by decide +kernel) hq)
set_option maxRecDepth 100000 in
theorem kp_Num_add {av : List AV} {m : Mm} {r : Mm} (h : c_Num_add av m = some r) : ab_kp m r := by
  obtain ⟨v0, v1, -, h⟩ := c_Num_add_inv h
  rw [r_Num_add_eq] at h
  have hV : ∀ a av m m', eV_Num_add a av m = some m' → ab_kp m m' := ab_ev_all (P := fun _ m r => ab_kp m r) [] (fun q hq => by cases hq)
  have hI : ∀ a av m q, eI_Num_add a av m = some q → ab_kp m q.2 := ab_ev_all (P := fun _ (m : Mm) (r : Int32 × Mm) => ab_kp m r.2) [(16, c_Num_canHold), (1, c_Math_max)] (List.forall_mem_cons.mpr ⟨fun av m r h => kp_Num_canHold h, List.forall_mem_cons.mpr ⟨fun av m r h => kp_Math_max h, fun q hq => by cases hq⟩⟩)
  exact ab_kprel (ρ := .inl (none, r)) (ab_tab_isn (t := t_Num_add) (by decide +kernel)) hV hI (ab_rV_inv h)
set_option maxRecDepth 100000 in
theorem cl_Num_add (l : Launch) : ∀ (pc : Nat) (q : Ent), i_Num_add pc = some q → ab_inv q.1 = true → ab_CR l KT CL none ab_gW "StreamTransport$Numbers" prog_5_method_4_code 2 1 21 eV_Num_add eI_Num_add pc q := by
  intro pc q hq hi
  have hm : pc ∈ cs_Num_add := ab_tab_cs (t := t_Num_add) (by decide +kernel) hq hi
  simp only [cs_Num_add, List.mem_cons, List.not_mem_nil, or_false] at hm
  rcases hm with rfl | rfl
  · cases (Option.some.inj hq : ((.invokevirtual 19, 16, 2, 1, 0) : Ent) = q)
    exact ab_crV (C := "StreamTransport$Numbers") (by decide +kernel) cw_Num_canHold (ab_gW_in 634 (by decide +kernel) rfl) is_Num_canHold sl_Num_canHold (by decide) (fun av m m' h => by cases h) (fun av m r h => cm_Num_canHold l h) KT_nd
  · cases (Option.some.inj hq : ((.invokestatic 23, 1, 2, 1, 0) : Ent) = q)
    exact ab_crS (by decide +kernel) cw_Math_max (ab_gW_in 635 (by decide +kernel) rfl) st_Math_max (by decide) (fun av m m' h => by cases h) (fun av m r h => cm_Math_max l h) KT_nd
theorem cw_Num_add : ab_cw y_Num_add prog_5_method_4_code 2 1 none := ⟨ab_gW_in 633 (by decide +kernel) rfl, ab_gW_in 64 (by decide +kernel) rfl, by decide +kernel, by decide +kernel, by decide +kernel⟩
theorem is_Num_add : Cond.instanceMethod y_Num_add ∈ ab_gW := ab_gW_in 631 (by decide +kernel) rfl
theorem sl_Num_add : Cond.selects "StreamTransport$Numbers" y_Num_add y_Num_add ∈ ab_gW := ab_gW_in 632 (by decide +kernel) rfl
set_option maxRecDepth 100000 in
theorem cm_Num_add (l : Launch) {av : List AV} {m : Mm} {r : Mm} (h0 : c_Num_add av m = some r) : ∃ (k q : Nat) (av' : List AV) (ci : Nat) (fs : List (Nat × Nat × Nat × Nat)) (z : vw_C), av = .inr (.inr (k, some q)) :: av' ∧ av'.length = 1 ∧ k ≠ 0 ∧ KT[k]? = some (.inl (ci, fs)) ∧ CL[ci]? = some z ∧ z.1 = "StreamTransport$Numbers" ∧ ab_nos av' ∧ ab_Met l KT CL y_Num_add (Cond.code y_Num_add prog_5_method_4_code 2 none :: ab_gW) 1 21 none av m none r := by
  obtain ⟨v0, v1, hav, h⟩ := c_Num_add_inv h0
  rw [r_Num_add_eq] at h
  have hmo : ab_mo m r := ab_kp_mo (kp_Num_add h0)
  subst hav
  exact ⟨_, _, _, _, _, _, rfl, rfl, by decide, rfl, rfl, rfl, (by intro v hv q e; subst e; simp at hv), ab_met (by decide +kernel) KT_0 KT_nd KT_k3 E_Num_add (cl_Num_add l) hmo (Nat.le_of_ble_eq_true rfl) (ab_rV_inv h) (fun v hv => by cases hv)⟩
/-! StreamTransport$Numbers.leastOfRange(I)I -/
def y_Num_leastOfRange : MethodName := ⟨"StreamTransport$Numbers", "leastOfRange", "(I)I"⟩
def t_Num_leastOfRange (pc : Nat) : Option Ent :=
  bif Nat.blt pc 11 then
    (bif Nat.blt pc 4 then
      (bif Nat.blt pc 2 then
        (bif Nat.blt pc 1 then
          (bif Nat.beq pc 0 then some (.iload_n 1, 1, 0, 0, 0) else none)
        else
          bif Nat.beq pc 1 then some (.istore_n 2, 2, 0, 0, 0) else none)
      else
        bif Nat.blt pc 3 then
          (bif Nat.beq pc 2 then some (.iload_n 1, 1, 0, 0, 0) else none)
        else
          bif Nat.beq pc 3 then some (.iconst 1, 0, 0, 0, 1) else none)
    else
      bif Nat.blt pc 6 then
        (bif Nat.blt pc 5 then
          (bif Nat.beq pc 4 then some (.isub, 0, 0, 0, 0) else none)
        else
          bif Nat.beq pc 5 then some (.istore_n 3, 3, 0, 0, 0) else none)
      else
        bif Nat.blt pc 7 then
          (bif Nat.beq pc 6 then some (.iload_n 3, 3, 0, 0, 0) else none)
        else
          bif Nat.blt pc 10 then
            (bif Nat.beq pc 7 then some (.ifCond .lt (19), 26, 0, 0, 0) else none)
          else
            bif Nat.beq pc 10 then some (.aload_n 0, 0, 0, 0, 0) else none)
  else
    bif Nat.blt pc 19 then
      (bif Nat.blt pc 15 then
        (bif Nat.blt pc 12 then
          (bif Nat.beq pc 11 then some (.iload_n 3, 3, 0, 0, 0) else none)
        else
          bif Nat.beq pc 12 then some (.invokevirtual 29, 15, 2, 1, 0) else none)
      else
        bif Nat.blt pc 18 then
          (bif Nat.beq pc 15 then some (.ifCond .eq (11), 26, 0, 0, 0) else none)
        else
          bif Nat.beq pc 18 then some (.iload_n 3, 3, 0, 0, 0) else none)
    else
      bif Nat.blt pc 23 then
        (bif Nat.blt pc 20 then
          (bif Nat.beq pc 19 then some (.istore_n 2, 2, 0, 0, 0) else none)
        else
          bif Nat.beq pc 20 then some (.iinc 3 (-1), 3, 0, 0, -1) else none)
      else
        bif Nat.blt pc 26 then
          (bif Nat.beq pc 23 then some (.goto (-17), 6, 0, 0, 0) else none)
        else
          bif Nat.blt pc 27 then
            (bif Nat.beq pc 26 then some (.iload_n 2, 2, 0, 0, 0) else none)
          else
            bif Nat.beq pc 27 then some (.ireturn, 0, 0, 0, 0) else none
def i_Num_leastOfRange : Nat → Option Ent := ab_tab 28 t_Num_leastOfRange
def h_Num_leastOfRange (pc : Nat) : Nat × List Bool := bif Nat.beq pc 6 then (1, [true, false, true, true]) else (0, [])
def s_Num_leastOfRange (pc : Nat) : List (Int32 × Nat) × Nat := ([], 0)
noncomputable def eV_Num_leastOfRange : Nat → List AV → Mm → Option Mm := ab_ev []
noncomputable def eI_Num_leastOfRange : Nat → List AV → Mm → Option (Int32 × Mm) := ab_ev [(15, c_Num_has)]
noncomputable def b_Num_leastOfRange_0 (f : Nat) (v0 : Nat) (v1 : Int32) (m : Mm) : Option Rs := ab_ex KT none s_Num_leastOfRange eV_Num_leastOfRange eI_Num_leastOfRange i_Num_leastOfRange h_Num_leastOfRange f 0 [some (.inr (.inr (8, some v0))), some (.inl v1), none, none] [] m
noncomputable def b_Num_leastOfRange_6 (f : Nat) (v0 : Nat) (v2 : Int32) (v3 : Int32) (m : Mm) : Option Rs := ab_ex KT none s_Num_leastOfRange eV_Num_leastOfRange eI_Num_leastOfRange i_Num_leastOfRange h_Num_leastOfRange f 6 [some (.inr (.inr (8, some v0))), none, some (.inl v2), some (.inl v3)] [] m
set_option maxRecDepth 100000 in
set_option maxHeartbeats 4000000 in
theorem b_Num_leastOfRange_0_eq (f : Nat) (v0 : Nat) (v1 : Int32) (m : Mm) : b_Num_leastOfRange_0 (f + 1) v0 v1 m =
    ab_let ((v1 - (1 : Int32))) fun x1 =>
    b_Num_leastOfRange_6 f v0 v1 x1 m := rfl
set_option maxRecDepth 100000 in
set_option maxHeartbeats 4000000 in
theorem b_Num_leastOfRange_6_eq (f : Nat) (v0 : Nat) (v2 : Int32) (v3 : Int32) (m : Mm) : b_Num_leastOfRange_6 (f + 1) v0 v2 v3 m =
    if v3 < 0 then
      some (.inl (some (.inl v2), m))
    else
      (r_Num_has v0 v3 m).bind fun z1 =>
      if z1.1 = 0 then
        some (.inl (some (.inl v2), z1.2))
      else
        ab_let (v3 + (-1 : Int32)) fun x2 =>
        b_Num_leastOfRange_6 f v0 v3 x2 z1.2 := rfl
noncomputable def r_Num_leastOfRange : Nat → Int32 → Mm → Option (Int32 × Mm) := ab_seal fun v0 v1 m => ab_rI (b_Num_leastOfRange_0 50000 v0 v1 m)
theorem r_Num_leastOfRange_eq (v0 : Nat) (v1 : Int32) (m : Mm) : r_Num_leastOfRange v0 v1 m = ab_rI (b_Num_leastOfRange_0 50000 v0 v1 m) := by
  unfold r_Num_leastOfRange
  rw [ab_seal_eq]
noncomputable def c_Num_leastOfRange : List AV → Mm → Option (Int32 × Mm) := fun av m => match av with
  | [.inr (.inr (kv0, ov0)), .inl v1] => if kv0 = 8 then (ov0.bind fun v0 => r_Num_leastOfRange v0 v1 m) else none
  | _ => none
theorem c_Num_leastOfRange_inv {av : List AV} {m : Mm} {r : Int32 × Mm} (h : c_Num_leastOfRange av m = some r) : ∃ (v0 : Nat) (v1 : Int32), av = [.inr (.inr (8, some v0)), .inl v1] ∧ r_Num_leastOfRange v0 v1 m = some r := by
  unfold c_Num_leastOfRange at h
  split at h
  · rename_i kv0 ov0 v1
    by_cases hkv0 : kv0 = 8
    case neg => rw [if_neg hkv0] at h; cases h
    rw [if_pos hkv0] at h
    subst hkv0
    obtain ⟨v0, hev0, h⟩ := Option.bind_eq_some_iff.mp h
    subst hev0
    exact ⟨v0, v1, rfl, h⟩
  · cases h
def cs_Num_leastOfRange : List Nat := [12]
set_option maxRecDepth 100000 in
theorem E_Num_leastOfRange : ∀ (pc : Nat) (q : Ent), i_Num_leastOfRange pc = some q → ab_E KT CL ab_gW "StreamTransport$Numbers" "leastOfRange" (some .int) prog_5_method_5_code s_Num_leastOfRange 4 pc q.1 q.2.1 q.2.2.1 q.2.2.2.1 q.2.2.2.2 := fun pc q hq =>
  ab_Eb_ok lc_Num lj_Num fl_Num (fpn_Num "leastOfRange") nw_Num na_Num nq_Num (ab_tab_all (t := t_Num_leastOfRange) (chk := fun pc q => ab_Eb (some .int) prog_5_method_5_code s_Num_leastOfRange 4 LC_Num LJ_Num FL_Num FPn_Num NW_Num NA_Num NQ_Num pc q.1 q.2.1 q.2.2.1 q.2.2.2.1 q.2.2.2.2) (by decide +kernel) hq)
set_option maxRecDepth 100000 in
theorem kp_Num_leastOfRange {av : List AV} {m : Mm} {r : Int32 × Mm} (h : c_Num_leastOfRange av m = some r) : ab_kp m r.2 := by
  obtain ⟨v0, v1, -, h⟩ := c_Num_leastOfRange_inv h
  rw [r_Num_leastOfRange_eq] at h
  have hV : ∀ a av m m', eV_Num_leastOfRange a av m = some m' → ab_kp m m' := ab_ev_all (P := fun _ m r => ab_kp m r) [] (fun q hq => by cases hq)
  have hI : ∀ a av m q, eI_Num_leastOfRange a av m = some q → ab_kp m q.2 := ab_ev_all (P := fun _ (m : Mm) (r : Int32 × Mm) => ab_kp m r.2) [(15, c_Num_has)] (List.forall_mem_cons.mpr ⟨fun av m r h => kp_Num_has h, fun q hq => by cases hq⟩)
  exact ab_kprel (ρ := .inl (some (.inl r.1), r.2)) (ab_tab_isn (t := t_Num_leastOfRange) (by decide +kernel)) hV hI (ab_rI_inv h)
set_option maxRecDepth 100000 in
theorem cl_Num_leastOfRange (l : Launch) : ∀ (pc : Nat) (q : Ent), i_Num_leastOfRange pc = some q → ab_inv q.1 = true → ab_CR l KT CL none ab_gW "StreamTransport$Numbers" prog_5_method_5_code 4 1 21 eV_Num_leastOfRange eI_Num_leastOfRange pc q := by
  intro pc q hq hi
  have hm : pc ∈ cs_Num_leastOfRange := ab_tab_cs (t := t_Num_leastOfRange) (by decide +kernel) hq hi
  simp only [cs_Num_leastOfRange, List.mem_cons, List.not_mem_nil, or_false] at hm
  rcases hm with rfl
  · cases (Option.some.inj hq : ((.invokevirtual 29, 15, 2, 1, 0) : Ent) = q)
    exact ab_crV (C := "StreamTransport$Numbers") (by decide +kernel) cw_Num_has (ab_gW_in 465 (by decide +kernel) rfl) is_Num_has sl_Num_has (by decide) (fun av m m' h => by cases h) (fun av m r h => cm_Num_has l h) KT_nd
theorem cw_Num_leastOfRange : ab_cw y_Num_leastOfRange prog_5_method_5_code 4 1 (some .int) := ⟨ab_gW_in 464 (by decide +kernel) rfl, ab_gW_in 64 (by decide +kernel) rfl, by decide +kernel, by decide +kernel, by decide +kernel⟩
theorem is_Num_leastOfRange : Cond.instanceMethod y_Num_leastOfRange ∈ ab_gW := ab_gW_in 462 (by decide +kernel) rfl
theorem sl_Num_leastOfRange : Cond.selects "StreamTransport$Numbers" y_Num_leastOfRange y_Num_leastOfRange ∈ ab_gW := ab_gW_in 463 (by decide +kernel) rfl
set_option maxRecDepth 100000 in
theorem cm_Num_leastOfRange (l : Launch) {av : List AV} {m : Mm} {r : Int32 × Mm} (h0 : c_Num_leastOfRange av m = some r) : ∃ (k q : Nat) (av' : List AV) (ci : Nat) (fs : List (Nat × Nat × Nat × Nat)) (z : vw_C), av = .inr (.inr (k, some q)) :: av' ∧ av'.length = 1 ∧ k ≠ 0 ∧ KT[k]? = some (.inl (ci, fs)) ∧ CL[ci]? = some z ∧ z.1 = "StreamTransport$Numbers" ∧ ab_nos av' ∧ ab_Met l KT CL y_Num_leastOfRange (Cond.code y_Num_leastOfRange prog_5_method_5_code 4 (some .int) :: ab_gW) 1 21 none av m (some (.inl r.1)) r.2 := by
  obtain ⟨v0, v1, hav, h⟩ := c_Num_leastOfRange_inv h0
  rw [r_Num_leastOfRange_eq] at h
  have hmo : ab_mo m r.2 := ab_kp_mo (kp_Num_leastOfRange h0)
  subst hav
  exact ⟨_, _, _, _, _, _, rfl, rfl, by decide, rfl, rfl, rfl, (by intro v hv q e; subst e; simp at hv), ab_met (by decide +kernel) KT_0 KT_nd KT_k3 E_Num_leastOfRange (cl_Num_leastOfRange l) hmo (Nat.le_of_ble_eq_true rfl) (ab_rI_inv h) (fun v hv => by cases hv; exact ⟨_, rfl⟩)⟩
/-! StreamTransport$Numbers.greatestBelow(I)I -/
def y_Num_greatestBelow : MethodName := ⟨"StreamTransport$Numbers", "greatestBelow", "(I)I"⟩
def t_Num_greatestBelow (pc : Nat) : Option Ent :=
  bif Nat.blt pc 10 then
    (bif Nat.blt pc 4 then
      (bif Nat.blt pc 2 then
        (bif Nat.blt pc 1 then
          (bif Nat.beq pc 0 then some (.iload_n 1, 1, 0, 0, 0) else none)
        else
          bif Nat.beq pc 1 then some (.iconst 1, 0, 0, 0, 1) else none)
      else
        bif Nat.blt pc 3 then
          (bif Nat.beq pc 2 then some (.isub, 0, 0, 0, 0) else none)
        else
          bif Nat.beq pc 3 then some (.istore_n 2, 2, 0, 0, 0) else none)
    else
      bif Nat.blt pc 8 then
        (bif Nat.blt pc 5 then
          (bif Nat.beq pc 4 then some (.iload_n 2, 2, 0, 0, 0) else none)
        else
          bif Nat.beq pc 5 then some (.ifCond .lt (19), 24, 0, 0, 0) else none)
      else
        bif Nat.blt pc 9 then
          (bif Nat.beq pc 8 then some (.aload_n 0, 0, 0, 0, 0) else none)
        else
          bif Nat.beq pc 9 then some (.iload_n 2, 2, 0, 0, 0) else none)
  else
    bif Nat.blt pc 18 then
      (bif Nat.blt pc 16 then
        (bif Nat.blt pc 13 then
          (bif Nat.beq pc 10 then some (.invokevirtual 29, 15, 2, 1, 0) else none)
        else
          bif Nat.beq pc 13 then some (.ifCond .eq (5), 18, 0, 0, 0) else none)
      else
        bif Nat.blt pc 17 then
          (bif Nat.beq pc 16 then some (.iload_n 2, 2, 0, 0, 0) else none)
        else
          bif Nat.beq pc 17 then some (.ireturn, 0, 0, 0, 0) else none)
    else
      bif Nat.blt pc 24 then
        (bif Nat.blt pc 21 then
          (bif Nat.beq pc 18 then some (.iinc 2 (-1), 2, 0, 0, -1) else none)
        else
          bif Nat.beq pc 21 then some (.goto (-17), 4, 0, 0, 0) else none)
      else
        bif Nat.blt pc 25 then
          (bif Nat.beq pc 24 then some (.iconst (-1), 0, 0, 0, -1) else none)
        else
          bif Nat.beq pc 25 then some (.ireturn, 0, 0, 0, 0) else none
def i_Num_greatestBelow : Nat → Option Ent := ab_tab 26 t_Num_greatestBelow
def h_Num_greatestBelow (pc : Nat) : Nat × List Bool := bif Nat.beq pc 4 then (1, [true, false, true]) else (0, [])
def s_Num_greatestBelow (pc : Nat) : List (Int32 × Nat) × Nat := ([], 0)
noncomputable def eV_Num_greatestBelow : Nat → List AV → Mm → Option Mm := ab_ev []
noncomputable def eI_Num_greatestBelow : Nat → List AV → Mm → Option (Int32 × Mm) := ab_ev [(15, c_Num_has)]
noncomputable def b_Num_greatestBelow_0 (f : Nat) (v0 : Nat) (v1 : Int32) (m : Mm) : Option Rs := ab_ex KT none s_Num_greatestBelow eV_Num_greatestBelow eI_Num_greatestBelow i_Num_greatestBelow h_Num_greatestBelow f 0 [some (.inr (.inr (8, some v0))), some (.inl v1), none] [] m
noncomputable def b_Num_greatestBelow_4 (f : Nat) (v0 : Nat) (v2 : Int32) (m : Mm) : Option Rs := ab_ex KT none s_Num_greatestBelow eV_Num_greatestBelow eI_Num_greatestBelow i_Num_greatestBelow h_Num_greatestBelow f 4 [some (.inr (.inr (8, some v0))), none, some (.inl v2)] [] m
set_option maxRecDepth 100000 in
set_option maxHeartbeats 4000000 in
theorem b_Num_greatestBelow_0_eq (f : Nat) (v0 : Nat) (v1 : Int32) (m : Mm) : b_Num_greatestBelow_0 (f + 1) v0 v1 m =
    ab_let ((v1 - (1 : Int32))) fun x1 =>
    b_Num_greatestBelow_4 f v0 x1 m := rfl
set_option maxRecDepth 100000 in
set_option maxHeartbeats 4000000 in
theorem b_Num_greatestBelow_4_eq (f : Nat) (v0 : Nat) (v2 : Int32) (m : Mm) : b_Num_greatestBelow_4 (f + 1) v0 v2 m =
    if v2 < 0 then
      some (.inl (some (.inl (-1 : Int32)), m))
    else
      (r_Num_has v0 v2 m).bind fun z1 =>
      if z1.1 = 0 then
        ab_let (v2 + (-1 : Int32)) fun x2 =>
        b_Num_greatestBelow_4 f v0 x2 z1.2
      else
        some (.inl (some (.inl v2), z1.2)) := rfl
noncomputable def r_Num_greatestBelow : Nat → Int32 → Mm → Option (Int32 × Mm) := ab_seal fun v0 v1 m => ab_rI (b_Num_greatestBelow_0 50000 v0 v1 m)
theorem r_Num_greatestBelow_eq (v0 : Nat) (v1 : Int32) (m : Mm) : r_Num_greatestBelow v0 v1 m = ab_rI (b_Num_greatestBelow_0 50000 v0 v1 m) := by
  unfold r_Num_greatestBelow
  rw [ab_seal_eq]
noncomputable def c_Num_greatestBelow : List AV → Mm → Option (Int32 × Mm) := fun av m => match av with
  | [.inr (.inr (kv0, ov0)), .inl v1] => if kv0 = 8 then (ov0.bind fun v0 => r_Num_greatestBelow v0 v1 m) else none
  | _ => none
theorem c_Num_greatestBelow_inv {av : List AV} {m : Mm} {r : Int32 × Mm} (h : c_Num_greatestBelow av m = some r) : ∃ (v0 : Nat) (v1 : Int32), av = [.inr (.inr (8, some v0)), .inl v1] ∧ r_Num_greatestBelow v0 v1 m = some r := by
  unfold c_Num_greatestBelow at h
  split at h
  · rename_i kv0 ov0 v1
    by_cases hkv0 : kv0 = 8
    case neg => rw [if_neg hkv0] at h; cases h
    rw [if_pos hkv0] at h
    subst hkv0
    obtain ⟨v0, hev0, h⟩ := Option.bind_eq_some_iff.mp h
    subst hev0
    exact ⟨v0, v1, rfl, h⟩
  · cases h
def cs_Num_greatestBelow : List Nat := [10]
set_option maxRecDepth 100000 in
theorem E_Num_greatestBelow : ∀ (pc : Nat) (q : Ent), i_Num_greatestBelow pc = some q → ab_E KT CL ab_gW "StreamTransport$Numbers" "greatestBelow" (some .int) prog_5_method_6_code s_Num_greatestBelow 3 pc q.1 q.2.1 q.2.2.1 q.2.2.2.1 q.2.2.2.2 := fun pc q hq =>
  ab_Eb_ok lc_Num lj_Num fl_Num (fpn_Num "greatestBelow") nw_Num na_Num nq_Num (ab_tab_all (t := t_Num_greatestBelow) (chk := fun pc q => ab_Eb (some .int) prog_5_method_6_code s_Num_greatestBelow 3 LC_Num LJ_Num FL_Num FPn_Num NW_Num NA_Num NQ_Num pc q.1 q.2.1 q.2.2.1 q.2.2.2.1 q.2.2.2.2) (by decide +kernel) hq)
set_option maxRecDepth 100000 in
theorem kp_Num_greatestBelow {av : List AV} {m : Mm} {r : Int32 × Mm} (h : c_Num_greatestBelow av m = some r) : ab_kp m r.2 := by
  obtain ⟨v0, v1, -, h⟩ := c_Num_greatestBelow_inv h
  rw [r_Num_greatestBelow_eq] at h
  have hV : ∀ a av m m', eV_Num_greatestBelow a av m = some m' → ab_kp m m' := ab_ev_all (P := fun _ m r => ab_kp m r) [] (fun q hq => by cases hq)
  have hI : ∀ a av m q, eI_Num_greatestBelow a av m = some q → ab_kp m q.2 := ab_ev_all (P := fun _ (m : Mm) (r : Int32 × Mm) => ab_kp m r.2) [(15, c_Num_has)] (List.forall_mem_cons.mpr ⟨fun av m r h => kp_Num_has h, fun q hq => by cases hq⟩)
  exact ab_kprel (ρ := .inl (some (.inl r.1), r.2)) (ab_tab_isn (t := t_Num_greatestBelow) (by decide +kernel)) hV hI (ab_rI_inv h)
set_option maxRecDepth 100000 in
theorem cl_Num_greatestBelow (l : Launch) : ∀ (pc : Nat) (q : Ent), i_Num_greatestBelow pc = some q → ab_inv q.1 = true → ab_CR l KT CL none ab_gW "StreamTransport$Numbers" prog_5_method_6_code 3 1 21 eV_Num_greatestBelow eI_Num_greatestBelow pc q := by
  intro pc q hq hi
  have hm : pc ∈ cs_Num_greatestBelow := ab_tab_cs (t := t_Num_greatestBelow) (by decide +kernel) hq hi
  simp only [cs_Num_greatestBelow, List.mem_cons, List.not_mem_nil, or_false] at hm
  rcases hm with rfl
  · cases (Option.some.inj hq : ((.invokevirtual 29, 15, 2, 1, 0) : Ent) = q)
    exact ab_crV (C := "StreamTransport$Numbers") (by decide +kernel) cw_Num_has (ab_gW_in 465 (by decide +kernel) rfl) is_Num_has sl_Num_has (by decide) (fun av m m' h => by cases h) (fun av m r h => cm_Num_has l h) KT_nd
theorem cw_Num_greatestBelow : ab_cw y_Num_greatestBelow prog_5_method_6_code 3 1 (some .int) := ⟨ab_gW_in 476 (by decide +kernel) rfl, ab_gW_in 64 (by decide +kernel) rfl, by decide +kernel, by decide +kernel, by decide +kernel⟩
theorem is_Num_greatestBelow : Cond.instanceMethod y_Num_greatestBelow ∈ ab_gW := ab_gW_in 474 (by decide +kernel) rfl
theorem sl_Num_greatestBelow : Cond.selects "StreamTransport$Numbers" y_Num_greatestBelow y_Num_greatestBelow ∈ ab_gW := ab_gW_in 475 (by decide +kernel) rfl
set_option maxRecDepth 100000 in
theorem cm_Num_greatestBelow (l : Launch) {av : List AV} {m : Mm} {r : Int32 × Mm} (h0 : c_Num_greatestBelow av m = some r) : ∃ (k q : Nat) (av' : List AV) (ci : Nat) (fs : List (Nat × Nat × Nat × Nat)) (z : vw_C), av = .inr (.inr (k, some q)) :: av' ∧ av'.length = 1 ∧ k ≠ 0 ∧ KT[k]? = some (.inl (ci, fs)) ∧ CL[ci]? = some z ∧ z.1 = "StreamTransport$Numbers" ∧ ab_nos av' ∧ ab_Met l KT CL y_Num_greatestBelow (Cond.code y_Num_greatestBelow prog_5_method_6_code 3 (some .int) :: ab_gW) 1 21 none av m (some (.inl r.1)) r.2 := by
  obtain ⟨v0, v1, hav, h⟩ := c_Num_greatestBelow_inv h0
  rw [r_Num_greatestBelow_eq] at h
  have hmo : ab_mo m r.2 := ab_kp_mo (kp_Num_greatestBelow h0)
  subst hav
  exact ⟨_, _, _, _, _, _, rfl, rfl, by decide, rfl, rfl, rfl, (by intro v hv q e; subst e; simp at hv), ab_met (by decide +kernel) KT_0 KT_nd KT_k3 E_Num_greatestBelow (cl_Num_greatestBelow l) hmo (Nat.le_of_ble_eq_true rfl) (ab_rI_inv h) (fun v hv => by cases hv; exact ⟨_, rfl⟩)⟩
/-! StreamTransport$Numbers.countRangesBelow(II)I -/
def y_Num_countRangesBelow : MethodName := ⟨"StreamTransport$Numbers", "countRangesBelow", "(II)I"⟩
def t_Num_countRangesBelow (pc : Nat) : Option Ent :=
  bif Nat.blt pc 17 then
    (bif Nat.blt pc 7 then
      (bif Nat.blt pc 2 then
        (bif Nat.blt pc 1 then
          (bif Nat.beq pc 0 then some (.iconst 0, 0, 0, 0, 0) else none)
        else
          bif Nat.beq pc 1 then some (.istore_n 3, 3, 0, 0, 0) else none)
      else
        bif Nat.blt pc 3 then
          (bif Nat.beq pc 2 then some (.aload_n 0, 0, 0, 0, 0) else none)
        else
          bif Nat.blt pc 4 then
            (bif Nat.beq pc 3 then some (.iload_n 1, 1, 0, 0, 0) else none)
          else
            bif Nat.beq pc 4 then some (.invokevirtual 32, 19, 2, 1, 0) else none)
    else
      bif Nat.blt pc 11 then
        (bif Nat.blt pc 9 then
          (bif Nat.beq pc 7 then some (.istore 4, 4, 0, 0, 0) else none)
        else
          bif Nat.blt pc 10 then
            (bif Nat.beq pc 9 then some (.iload_n 3, 3, 0, 0, 0) else none)
          else
            bif Nat.beq pc 10 then some (.iload_n 2, 2, 0, 0, 0) else none)
      else
        bif Nat.blt pc 14 then
          (bif Nat.beq pc 11 then some (.if_icmp .ge (27), 38, 0, 0, 0) else none)
        else
          bif Nat.blt pc 16 then
            (bif Nat.beq pc 14 then some (.iload 4, 4, 0, 0, 0) else none)
          else
            bif Nat.beq pc 16 then some (.iconst (-1), 0, 0, 0, -1) else none)
  else
    bif Nat.blt pc 27 then
      (bif Nat.blt pc 23 then
        (bif Nat.blt pc 20 then
          (bif Nat.beq pc 17 then some (.if_icmp .eq (21), 38, 0, 0, 0) else none)
        else
          bif Nat.beq pc 20 then some (.iinc 3 1, 3, 0, 0, 1) else none)
      else
        bif Nat.blt pc 24 then
          (bif Nat.beq pc 23 then some (.aload_n 0, 0, 0, 0, 0) else none)
        else
          bif Nat.blt pc 25 then
            (bif Nat.beq pc 24 then some (.aload_n 0, 0, 0, 0, 0) else none)
          else
            bif Nat.beq pc 25 then some (.iload 4, 4, 0, 0, 0) else none)
    else
      bif Nat.blt pc 35 then
        (bif Nat.blt pc 30 then
          (bif Nat.beq pc 27 then some (.invokevirtual 36, 18, 2, 1, 0) else none)
        else
          bif Nat.blt pc 33 then
            (bif Nat.beq pc 30 then some (.invokevirtual 32, 19, 2, 1, 0) else none)
          else
            bif Nat.beq pc 33 then some (.istore 4, 4, 0, 0, 0) else none)
      else
        bif Nat.blt pc 38 then
          (bif Nat.beq pc 35 then some (.goto (-26), 9, 0, 0, 0) else none)
        else
          bif Nat.blt pc 39 then
            (bif Nat.beq pc 38 then some (.iload_n 3, 3, 0, 0, 0) else none)
          else
            bif Nat.beq pc 39 then some (.ireturn, 0, 0, 0, 0) else none
def i_Num_countRangesBelow : Nat → Option Ent := ab_tab 40 t_Num_countRangesBelow
def h_Num_countRangesBelow (pc : Nat) : Nat × List Bool := bif Nat.beq pc 9 then (1, [true, false, true, true, true]) else (0, [])
def s_Num_countRangesBelow (pc : Nat) : List (Int32 × Nat) × Nat := ([], 0)
noncomputable def eV_Num_countRangesBelow : Nat → List AV → Mm → Option Mm := ab_ev []
noncomputable def eI_Num_countRangesBelow : Nat → List AV → Mm → Option (Int32 × Mm) := ab_ev [(19, c_Num_greatestBelow), (18, c_Num_leastOfRange)]
noncomputable def b_Num_countRangesBelow_0 (f : Nat) (v0 : Nat) (v1 : Int32) (v2 : Int32) (m : Mm) : Option Rs := ab_ex KT none s_Num_countRangesBelow eV_Num_countRangesBelow eI_Num_countRangesBelow i_Num_countRangesBelow h_Num_countRangesBelow f 0 [some (.inr (.inr (8, some v0))), some (.inl v1), some (.inl v2), none, none] [] m
noncomputable def b_Num_countRangesBelow_9 (f : Nat) (v0 : Nat) (v2 : Int32) (v3 : Int32) (v4 : Int32) (m : Mm) : Option Rs := ab_ex KT none s_Num_countRangesBelow eV_Num_countRangesBelow eI_Num_countRangesBelow i_Num_countRangesBelow h_Num_countRangesBelow f 9 [some (.inr (.inr (8, some v0))), none, some (.inl v2), some (.inl v3), some (.inl v4)] [] m
set_option maxRecDepth 100000 in
set_option maxHeartbeats 4000000 in
theorem b_Num_countRangesBelow_0_eq (f : Nat) (v0 : Nat) (v1 : Int32) (v2 : Int32) (m : Mm) : b_Num_countRangesBelow_0 (f + 1) v0 v1 v2 m =
    (r_Num_greatestBelow v0 v1 m).bind fun z1 =>
    b_Num_countRangesBelow_9 f v0 v2 (0 : Int32) z1.1 z1.2 := rfl
set_option maxRecDepth 100000 in
set_option maxHeartbeats 4000000 in
theorem b_Num_countRangesBelow_9_eq (f : Nat) (v0 : Nat) (v2 : Int32) (v3 : Int32) (v4 : Int32) (m : Mm) : b_Num_countRangesBelow_9 (f + 1) v0 v2 v3 v4 m =
    if v2 ≤ v3 then
      some (.inl (some (.inl v3), m))
    else
      if v4 = (-1 : Int32) then
        some (.inl (some (.inl v3), m))
      else
        ab_let (v3 + (1 : Int32)) fun x1 =>
        (r_Num_leastOfRange v0 v4 m).bind fun z2 =>
        (r_Num_greatestBelow v0 z2.1 z2.2).bind fun z3 =>
        b_Num_countRangesBelow_9 f v0 v2 x1 z3.1 z3.2 := rfl
noncomputable def r_Num_countRangesBelow : Nat → Int32 → Int32 → Mm → Option (Int32 × Mm) := ab_seal fun v0 v1 v2 m => ab_rI (b_Num_countRangesBelow_0 50000 v0 v1 v2 m)
theorem r_Num_countRangesBelow_eq (v0 : Nat) (v1 : Int32) (v2 : Int32) (m : Mm) : r_Num_countRangesBelow v0 v1 v2 m = ab_rI (b_Num_countRangesBelow_0 50000 v0 v1 v2 m) := by
  unfold r_Num_countRangesBelow
  rw [ab_seal_eq]
noncomputable def c_Num_countRangesBelow : List AV → Mm → Option (Int32 × Mm) := fun av m => match av with
  | [.inr (.inr (kv0, ov0)), .inl v1, .inl v2] => if kv0 = 8 then (ov0.bind fun v0 => r_Num_countRangesBelow v0 v1 v2 m) else none
  | _ => none
theorem c_Num_countRangesBelow_inv {av : List AV} {m : Mm} {r : Int32 × Mm} (h : c_Num_countRangesBelow av m = some r) : ∃ (v0 : Nat) (v1 : Int32) (v2 : Int32), av = [.inr (.inr (8, some v0)), .inl v1, .inl v2] ∧ r_Num_countRangesBelow v0 v1 v2 m = some r := by
  unfold c_Num_countRangesBelow at h
  split at h
  · rename_i kv0 ov0 v1 v2
    by_cases hkv0 : kv0 = 8
    case neg => rw [if_neg hkv0] at h; cases h
    rw [if_pos hkv0] at h
    subst hkv0
    obtain ⟨v0, hev0, h⟩ := Option.bind_eq_some_iff.mp h
    subst hev0
    exact ⟨v0, v1, v2, rfl, h⟩
  · cases h
def cs_Num_countRangesBelow : List Nat := [4, 27, 30]
set_option maxRecDepth 100000 in
theorem E_Num_countRangesBelow : ∀ (pc : Nat) (q : Ent), i_Num_countRangesBelow pc = some q → ab_E KT CL ab_gW "StreamTransport$Numbers" "countRangesBelow" (some .int) prog_5_method_7_code s_Num_countRangesBelow 5 pc q.1 q.2.1 q.2.2.1 q.2.2.2.1 q.2.2.2.2 := fun pc q hq =>
  ab_Eb_ok lc_Num lj_Num fl_Num (fpn_Num "countRangesBelow") nw_Num na_Num nq_Num (ab_tab_all (t := t_Num_countRangesBelow) (chk := fun pc q => ab_Eb (some .int) prog_5_method_7_code s_Num_countRangesBelow 5 LC_Num LJ_Num FL_Num FPn_Num NW_Num NA_Num NQ_Num pc q.1 q.2.1 q.2.2.1 q.2.2.2.1 q.2.2.2.2) (by decide +kernel) hq)
set_option maxRecDepth 100000 in
theorem kp_Num_countRangesBelow {av : List AV} {m : Mm} {r : Int32 × Mm} (h : c_Num_countRangesBelow av m = some r) : ab_kp m r.2 := by
  obtain ⟨v0, v1, v2, -, h⟩ := c_Num_countRangesBelow_inv h
  rw [r_Num_countRangesBelow_eq] at h
  have hV : ∀ a av m m', eV_Num_countRangesBelow a av m = some m' → ab_kp m m' := ab_ev_all (P := fun _ m r => ab_kp m r) [] (fun q hq => by cases hq)
  have hI : ∀ a av m q, eI_Num_countRangesBelow a av m = some q → ab_kp m q.2 := ab_ev_all (P := fun _ (m : Mm) (r : Int32 × Mm) => ab_kp m r.2) [(19, c_Num_greatestBelow), (18, c_Num_leastOfRange)] (List.forall_mem_cons.mpr ⟨fun av m r h => kp_Num_greatestBelow h, List.forall_mem_cons.mpr ⟨fun av m r h => kp_Num_leastOfRange h, fun q hq => by cases hq⟩⟩)
  exact ab_kprel (ρ := .inl (some (.inl r.1), r.2)) (ab_tab_isn (t := t_Num_countRangesBelow) (by decide +kernel)) hV hI (ab_rI_inv h)
set_option maxRecDepth 100000 in
theorem cl_Num_countRangesBelow (l : Launch) : ∀ (pc : Nat) (q : Ent), i_Num_countRangesBelow pc = some q → ab_inv q.1 = true → ab_CR l KT CL none ab_gW "StreamTransport$Numbers" prog_5_method_7_code 5 2 44 eV_Num_countRangesBelow eI_Num_countRangesBelow pc q := by
  intro pc q hq hi
  have hm : pc ∈ cs_Num_countRangesBelow := ab_tab_cs (t := t_Num_countRangesBelow) (by decide +kernel) hq hi
  simp only [cs_Num_countRangesBelow, List.mem_cons, List.not_mem_nil, or_false] at hm
  rcases hm with rfl | rfl | rfl
  · cases (Option.some.inj hq : ((.invokevirtual 32, 19, 2, 1, 0) : Ent) = q)
    exact ab_crV (C := "StreamTransport$Numbers") (by decide +kernel) cw_Num_greatestBelow (ab_gW_in 473 (by decide +kernel) rfl) is_Num_greatestBelow sl_Num_greatestBelow (by decide) (fun av m m' h => by cases h) (fun av m r h => cm_Num_greatestBelow l h) KT_nd
  · cases (Option.some.inj hq : ((.invokevirtual 36, 18, 2, 1, 0) : Ent) = q)
    exact ab_crV (C := "StreamTransport$Numbers") (by decide +kernel) cw_Num_leastOfRange (ab_gW_in 477 (by decide +kernel) rfl) is_Num_leastOfRange sl_Num_leastOfRange (by decide) (fun av m m' h => by cases h) (fun av m r h => cm_Num_leastOfRange l h) KT_nd
  · cases (Option.some.inj hq : ((.invokevirtual 32, 19, 2, 1, 0) : Ent) = q)
    exact ab_crV (C := "StreamTransport$Numbers") (by decide +kernel) cw_Num_greatestBelow (ab_gW_in 473 (by decide +kernel) rfl) is_Num_greatestBelow sl_Num_greatestBelow (by decide) (fun av m m' h => by cases h) (fun av m r h => cm_Num_greatestBelow l h) KT_nd
theorem cw_Num_countRangesBelow : ab_cw y_Num_countRangesBelow prog_5_method_7_code 5 2 (some .int) := ⟨ab_gW_in 472 (by decide +kernel) rfl, ab_gW_in 64 (by decide +kernel) rfl, by decide +kernel, by decide +kernel, by decide +kernel⟩
theorem is_Num_countRangesBelow : Cond.instanceMethod y_Num_countRangesBelow ∈ ab_gW := ab_gW_in 470 (by decide +kernel) rfl
theorem sl_Num_countRangesBelow : Cond.selects "StreamTransport$Numbers" y_Num_countRangesBelow y_Num_countRangesBelow ∈ ab_gW := ab_gW_in 471 (by decide +kernel) rfl
set_option maxRecDepth 100000 in
theorem cm_Num_countRangesBelow (l : Launch) {av : List AV} {m : Mm} {r : Int32 × Mm} (h0 : c_Num_countRangesBelow av m = some r) : ∃ (k q : Nat) (av' : List AV) (ci : Nat) (fs : List (Nat × Nat × Nat × Nat)) (z : vw_C), av = .inr (.inr (k, some q)) :: av' ∧ av'.length = 2 ∧ k ≠ 0 ∧ KT[k]? = some (.inl (ci, fs)) ∧ CL[ci]? = some z ∧ z.1 = "StreamTransport$Numbers" ∧ ab_nos av' ∧ ab_Met l KT CL y_Num_countRangesBelow (Cond.code y_Num_countRangesBelow prog_5_method_7_code 5 (some .int) :: ab_gW) 2 44 none av m (some (.inl r.1)) r.2 := by
  obtain ⟨v0, v1, v2, hav, h⟩ := c_Num_countRangesBelow_inv h0
  rw [r_Num_countRangesBelow_eq] at h
  have hmo : ab_mo m r.2 := ab_kp_mo (kp_Num_countRangesBelow h0)
  subst hav
  exact ⟨_, _, _, _, _, _, rfl, rfl, by decide, rfl, rfl, rfl, (by intro v hv q e; subst e; simp at hv), ab_met (by decide +kernel) KT_0 KT_nd KT_k3 E_Num_countRangesBelow (cl_Num_countRangesBelow l) hmo (Nat.le_of_ble_eq_true rfl) (ab_rI_inv h) (fun v hv => by cases hv; exact ⟨_, rfl⟩)⟩
end
