section
def FLp_Inc : List ((Nat × Nat × Nat) × Nat) := [((9, 1, 0), 182), ((15, 1, 3), 189), ((19, 1, 4), 191), ((28, 1, 1), 185), ((31, 1, 5), 194), ((35, 1, 2), 187)]
def FL_Inc : List (Nat × Nat × Nat) := [(9, 1, 0), (15, 1, 3), (19, 1, 4), (28, 1, 1), (31, 1, 5), (35, 1, 2)]
theorem fl_Inc : ∀ q ∈ FL_Inc, ab_fld CL ab_gW "StreamTransport$Incoming" q.1 q.2.1 q.2.2 := ab_flb_ok (own := "StreamTransport$Incoming") (l := FLp_Inc) (by decide +kernel)
def FPnp_Inc : List ((Nat × Nat × Nat) × Nat) := [((15, 1, 3), 189), ((19, 1, 4), 191), ((28, 1, 1), 185), ((31, 1, 5), 194), ((35, 1, 2), 187)]
def FPn_Inc : List (Nat × Nat × Nat) := [(15, 1, 3), (19, 1, 4), (28, 1, 1), (31, 1, 5), (35, 1, 2)]
theorem fpn_Inc (nm : String) : ∀ q ∈ FPn_Inc, ∃ ty, ab_fldp CL ab_gW "StreamTransport$Incoming" nm q.1 q.2.1 q.2.2 ty ∧ ∀ (k t r k' d' : Nat), ab_fs KT q.2.1 q.2.2 k = some (t, r, k', d') → (t = 0 → ty = .int) ∧ (t = 1 → ty = .boolean) ∧ (t = 2 → ((∃ n, ty = .object n) ∨ ∃ t, ty = .array t) ∧ k' ≠ 0) := ab_fpb_ok (own := "StreamTransport$Incoming") (nm := nm) (l := FPnp_Inc) (ab_fpn_ok (by decide +kernel))
def FPip_Inc : List ((Nat × Nat × Nat) × Nat) := [((9, 1, 0), 182), ((15, 1, 3), 189), ((19, 1, 4), 191), ((28, 1, 1), 185), ((31, 1, 5), 194), ((35, 1, 2), 187)]
def FPi_Inc : List (Nat × Nat × Nat) := [(9, 1, 0), (15, 1, 3), (19, 1, 4), (28, 1, 1), (31, 1, 5), (35, 1, 2)]
theorem fpi_Inc : ∀ q ∈ FPi_Inc, ∃ ty, ab_fldp CL ab_gW "StreamTransport$Incoming" "<init>" q.1 q.2.1 q.2.2 ty ∧ ∀ (k t r k' d' : Nat), ab_fs KT q.2.1 q.2.2 k = some (t, r, k', d') → (t = 0 → ty = .int) ∧ (t = 1 → ty = .boolean) ∧ (t = 2 → ((∃ n, ty = .object n) ∨ ∃ t, ty = .array t) ∧ k' ≠ 0) := ab_fpb_ok (own := "StreamTransport$Incoming") (nm := "<init>") (l := FPip_Inc) (by decide +kernel)
def LCp_Inc : List ((Nat × Int32) × Nat) := []
def LC_Inc : List (Nat × Int32) := []
theorem lc_Inc : ∀ q ∈ LC_Inc, Cond.constant "StreamTransport$Incoming" q.1 q.2 ∈ ab_gW := ab_lcb (own := "StreamTransport$Incoming") (l := LCp_Inc) (by decide +kernel)
def LJp_Inc : List ((Nat × Nat) × Nat) := []
def LJ_Inc : List (Nat × Nat) := []
theorem lj_Inc : ∀ q ∈ LJ_Inc, Cond.constantLong "StreamTransport$Incoming" q.1 (Int64.ofNat q.2) ∈ ab_gW := ab_ljb (own := "StreamTransport$Incoming") (l := LJp_Inc) (by decide +kernel)
def NWp_Inc : List ((Nat × Nat) × Nat × Nat × Nat) := []
def NW_Inc : List (Nat × Nat) := []
theorem nw_Inc : ∀ q ∈ NW_Inc, ab_newok KT CL ab_gW "StreamTransport$Incoming" q.1 q.2 := ab_nwb_ok (own := "StreamTransport$Incoming") (l := NWp_Inc) (by decide +kernel)
def NQp_Inc : List ((Nat × Nat) × Nat) := []
def NQ_Inc : List (Nat × Nat) := []
theorem nq_Inc : ∀ q ∈ NQ_Inc, ab_nqok KT CL ab_gW "StreamTransport$Incoming" q.1 q.2 := ab_nqb_ok (own := "StreamTransport$Incoming") (l := NQp_Inc) (by decide +kernel)
def NA_Inc : List (Nat × Nat) := [(0, 16)]
theorem na_Inc : ∀ q ∈ NA_Inc, (q.1 = 0 → ab_naok KT CL ab_gW .int q.2) ∧ (q.1 = 1 → ab_naok KT CL ab_gW .boolean q.2) ∧ (q.1 = 2 → ab_naok KT CL ab_gW .long q.2) := ab_nab_ok (by decide +kernel)
/-! StreamTransport$Incoming.ready()I -/
def y_Inc_ready : MethodName := ⟨"StreamTransport$Incoming", "ready", "()I"⟩
def t_Inc_ready (pc : Nat) : Option Ent :=
  bif Nat.blt pc 14 then
    (bif Nat.blt pc 6 then
      (bif Nat.blt pc 2 then
        (bif Nat.blt pc 1 then
          (bif Nat.beq pc 0 then some (.iconst 0, 0, 0, 0, 0) else none)
        else
          bif Nat.beq pc 1 then some (.istore_n 1, 1, 0, 0, 0) else none)
      else
        bif Nat.blt pc 3 then
          (bif Nat.beq pc 2 then some (.aload_n 0, 0, 0, 0, 0) else none)
        else
          bif Nat.beq pc 3 then some (.getfield 28, 1, 1, 0, 0) else none)
    else
      bif Nat.blt pc 8 then
        (bif Nat.blt pc 7 then
          (bif Nat.beq pc 6 then some (.istore_n 2, 2, 0, 0, 0) else none)
        else
          bif Nat.beq pc 7 then some (.iload_n 2, 2, 0, 0, 0) else none)
      else
        bif Nat.blt pc 10 then
          (bif Nat.beq pc 8 then some (.bipush 64, 0, 0, 0, 64) else none)
        else
          bif Nat.blt pc 13 then
            (bif Nat.beq pc 10 then some (.if_icmp .ge (22), 32, 0, 0, 0) else none)
          else
            bif Nat.beq pc 13 then some (.aload_n 0, 0, 0, 0, 0) else none)
  else
    bif Nat.blt pc 23 then
      (bif Nat.blt pc 18 then
        (bif Nat.blt pc 17 then
          (bif Nat.beq pc 14 then some (.getfield 9, 1, 0, 1, 0) else none)
        else
          bif Nat.beq pc 17 then some (.iload_n 2, 2, 0, 0, 0) else none)
      else
        bif Nat.blt pc 19 then
          (bif Nat.beq pc 18 then some (.iaload, 0, 0, 0, 0) else none)
        else
          bif Nat.blt pc 20 then
            (bif Nat.beq pc 19 then some (.iconst (-1), 0, 0, 0, -1) else none)
          else
            bif Nat.beq pc 20 then some (.if_icmp .eq (12), 32, 0, 0, 0) else none)
    else
      bif Nat.blt pc 29 then
        (bif Nat.blt pc 26 then
          (bif Nat.beq pc 23 then some (.iinc 1 1, 1, 0, 0, 1) else none)
        else
          bif Nat.beq pc 26 then some (.iinc 2 1, 2, 0, 0, 1) else none)
      else
        bif Nat.blt pc 32 then
          (bif Nat.beq pc 29 then some (.goto (-22), 7, 0, 0, 0) else none)
        else
          bif Nat.blt pc 33 then
            (bif Nat.beq pc 32 then some (.iload_n 1, 1, 0, 0, 0) else none)
          else
            bif Nat.beq pc 33 then some (.ireturn, 0, 0, 0, 0) else none
def i_Inc_ready : Nat → Option Ent := ab_tab 34 t_Inc_ready
def h_Inc_ready (pc : Nat) : Nat × List Bool := bif Nat.beq pc 7 then (1, [true, true, true]) else (0, [])
def s_Inc_ready (pc : Nat) : List (Int32 × Nat) × Nat := ([], 0)
noncomputable def eV_Inc_ready : Nat → List AV → Mm → Option Mm := ab_ev []
noncomputable def eI_Inc_ready : Nat → List AV → Mm → Option (Int32 × Mm) := ab_ev []
noncomputable def b_Inc_ready_0 (f : Nat) (v0 : Nat) (m : Mm) : Option Rs := ab_ex KT none s_Inc_ready eV_Inc_ready eI_Inc_ready i_Inc_ready h_Inc_ready f 0 [some (.inr (.inr (15, some v0))), none, none] [] m
noncomputable def b_Inc_ready_7 (f : Nat) (v0 : Nat) (v1 : Int32) (v2 : Int32) (m : Mm) : Option Rs := ab_ex KT none s_Inc_ready eV_Inc_ready eI_Inc_ready i_Inc_ready h_Inc_ready f 7 [some (.inr (.inr (15, some v0))), some (.inl v1), some (.inl v2)] [] m
set_option maxRecDepth 100000 in
set_option maxHeartbeats 4000000 in
theorem b_Inc_ready_0_eq (f : Nat) (v0 : Nat) (m : Mm) : b_Inc_ready_0 (f + 1) v0 m =
    ab_let ((m.1 47 v0 0)) fun x1 =>
    b_Inc_ready_7 f v0 (0 : Int32) x1 m := rfl
set_option maxRecDepth 100000 in
set_option maxHeartbeats 4000000 in
theorem b_Inc_ready_7_eq (f : Nat) (v0 : Nat) (v1 : Int32) (v2 : Int32) (m : Mm) : b_Inc_ready_7 (f + 1) v0 v1 v2 m =
    if (64 : Int32) ≤ v2 then
      some (.inl (some (.inl v1), m))
    else
      (ab_ix v2 64).bind fun i1 =>
      if (m.1 53 (v0 + 1) i1) = (-1 : Int32) then
        some (.inl (some (.inl v1), m))
      else
        ab_let (v1 + (1 : Int32)) fun x2 =>
        ab_let (v2 + (1 : Int32)) fun x3 =>
        b_Inc_ready_7 f v0 x2 x3 m := rfl
noncomputable def r_Inc_ready : Nat → Mm → Option (Int32 × Mm) := ab_seal fun v0 m => ab_rI (b_Inc_ready_0 50000 v0 m)
theorem r_Inc_ready_eq (v0 : Nat) (m : Mm) : r_Inc_ready v0 m = ab_rI (b_Inc_ready_0 50000 v0 m) := by
  unfold r_Inc_ready
  rw [ab_seal_eq]
noncomputable def c_Inc_ready : List AV → Mm → Option (Int32 × Mm) := fun av m => match av with
  | [.inr (.inr (kv0, ov0))] => if kv0 = 15 then (ov0.bind fun v0 => r_Inc_ready v0 m) else none
  | _ => none
theorem c_Inc_ready_inv {av : List AV} {m : Mm} {r : Int32 × Mm} (h : c_Inc_ready av m = some r) : ∃ (v0 : Nat), av = [.inr (.inr (15, some v0))] ∧ r_Inc_ready v0 m = some r := by
  unfold c_Inc_ready at h
  split at h
  · rename_i kv0 ov0
    by_cases hkv0 : kv0 = 15
    case neg => rw [if_neg hkv0] at h; cases h
    rw [if_pos hkv0] at h
    subst hkv0
    obtain ⟨v0, hev0, h⟩ := Option.bind_eq_some_iff.mp h
    subst hev0
    exact ⟨v0, rfl, h⟩
  · cases h
def cs_Inc_ready : List Nat := []
set_option maxRecDepth 100000 in
theorem E_Inc_ready : ∀ (pc : Nat) (q : Ent), i_Inc_ready pc = some q → ab_E KT CL ab_gW "StreamTransport$Incoming" "ready" (some .int) prog_3_method_2_code s_Inc_ready 3 pc q.1 q.2.1 q.2.2.1 q.2.2.2.1 q.2.2.2.2 := fun pc q hq =>
  ab_Eb_ok lc_Inc lj_Inc fl_Inc (fpn_Inc "ready") nw_Inc na_Inc nq_Inc (ab_tab_all (t := t_Inc_ready) (chk := fun pc q => ab_Eb (some .int) prog_3_method_2_code s_Inc_ready 3 LC_Inc LJ_Inc FL_Inc FPn_Inc NW_Inc NA_Inc NQ_Inc pc q.1 q.2.1 q.2.2.1 q.2.2.2.1 q.2.2.2.2) (by decide +kernel) hq)
set_option maxRecDepth 100000 in
theorem kp_Inc_ready {av : List AV} {m : Mm} {r : Int32 × Mm} (h : c_Inc_ready av m = some r) : ab_kp m r.2 := by
  obtain ⟨v0, -, h⟩ := c_Inc_ready_inv h
  rw [r_Inc_ready_eq] at h
  have hV : ∀ a av m m', eV_Inc_ready a av m = some m' → ab_kp m m' := ab_ev_all (P := fun _ m r => ab_kp m r) [] (fun q hq => by cases hq)
  have hI : ∀ a av m q, eI_Inc_ready a av m = some q → ab_kp m q.2 := ab_ev_all (P := fun _ (m : Mm) (r : Int32 × Mm) => ab_kp m r.2) [] (fun q hq => by cases hq)
  exact ab_kprel (ρ := .inl (some (.inl r.1), r.2)) (ab_tab_isn (t := t_Inc_ready) (by decide +kernel)) hV hI (ab_rI_inv h)
set_option maxRecDepth 100000 in
theorem cl_Inc_ready (l : Launch) : ∀ (pc : Nat) (q : Ent), i_Inc_ready pc = some q → ab_inv q.1 = true → ab_CR l KT CL none ab_gW "StreamTransport$Incoming" prog_3_method_2_code 3 0 0 eV_Inc_ready eI_Inc_ready pc q := by
  intro pc q hq hi
  have hm : pc ∈ cs_Inc_ready := ab_tab_cs (t := t_Inc_ready) (by decide +kernel) hq hi
  cases hm
theorem cw_Inc_ready : ab_cw y_Inc_ready prog_3_method_2_code 3 0 (some .int) := ⟨ab_gW_in 836 (by decide +kernel) rfl, ab_gW_in 67 (by decide +kernel) rfl, by decide +kernel, by decide +kernel, by decide +kernel⟩
theorem is_Inc_ready : Cond.instanceMethod y_Inc_ready ∈ ab_gW := ab_gW_in 834 (by decide +kernel) rfl
theorem sl_Inc_ready : Cond.selects "StreamTransport$Incoming" y_Inc_ready y_Inc_ready ∈ ab_gW := ab_gW_in 835 (by decide +kernel) rfl
set_option maxRecDepth 100000 in
theorem cm_Inc_ready (l : Launch) {av : List AV} {m : Mm} {r : Int32 × Mm} (h0 : c_Inc_ready av m = some r) : ∃ (k q : Nat) (av' : List AV) (ci : Nat) (fs : List (Nat × Nat × Nat × Nat)) (z : vw_C), av = .inr (.inr (k, some q)) :: av' ∧ av'.length = 0 ∧ k ≠ 0 ∧ KT[k]? = some (.inl (ci, fs)) ∧ CL[ci]? = some z ∧ z.1 = "StreamTransport$Incoming" ∧ ab_nos av' ∧ ab_Met l KT CL y_Inc_ready (Cond.code y_Inc_ready prog_3_method_2_code 3 (some .int) :: ab_gW) 0 0 none av m (some (.inl r.1)) r.2 := by
  obtain ⟨v0, hav, h⟩ := c_Inc_ready_inv h0
  rw [r_Inc_ready_eq] at h
  have hmo : ab_mo m r.2 := ab_kp_mo (kp_Inc_ready h0)
  subst hav
  exact ⟨_, _, _, _, _, _, rfl, rfl, by decide, rfl, rfl, rfl, (by intro v hv q e; subst e; simp at hv), ab_met (by decide +kernel) KT_0 KT_nd KT_k3 E_Inc_ready (cl_Inc_ready l) hmo (Nat.le_of_ble_eq_true rfl) (ab_rI_inv h) (fun v hv => by cases hv; exact ⟨_, rfl⟩)⟩
/-! StreamTransport$Incoming.spent()I -/
def y_Inc_spent : MethodName := ⟨"StreamTransport$Incoming", "spent", "()I"⟩
def t_Inc_spent (pc : Nat) : Option Ent :=
  bif Nat.blt pc 8 then
    (bif Nat.blt pc 4 then
      (bif Nat.blt pc 1 then
        (bif Nat.beq pc 0 then some (.aload_n 0, 0, 0, 0, 0) else none)
      else
        bif Nat.beq pc 1 then some (.getfield 31, 1, 5, 0, 0) else none)
    else
      bif Nat.blt pc 7 then
        (bif Nat.beq pc 4 then some (.ifCond .eq (10), 14, 0, 0, 0) else none)
      else
        bif Nat.beq pc 7 then some (.aload_n 0, 0, 0, 0, 0) else none)
  else
    bif Nat.blt pc 14 then
      (bif Nat.blt pc 11 then
        (bif Nat.beq pc 8 then some (.getfield 15, 1, 3, 0, 0) else none)
      else
        bif Nat.beq pc 11 then some (.goto 7, 18, 0, 0, 0) else none)
    else
      bif Nat.blt pc 15 then
        (bif Nat.beq pc 14 then some (.aload_n 0, 0, 0, 0, 0) else none)
      else
        bif Nat.blt pc 18 then
          (bif Nat.beq pc 15 then some (.getfield 28, 1, 1, 0, 0) else none)
        else
          bif Nat.beq pc 18 then some (.ireturn, 0, 0, 0, 0) else none
def i_Inc_spent : Nat → Option Ent := ab_tab 19 t_Inc_spent
def h_Inc_spent (pc : Nat) : Nat × List Bool := (0, [])
def s_Inc_spent (pc : Nat) : List (Int32 × Nat) × Nat := ([], 0)
noncomputable def eV_Inc_spent : Nat → List AV → Mm → Option Mm := ab_ev []
noncomputable def eI_Inc_spent : Nat → List AV → Mm → Option (Int32 × Mm) := ab_ev []
noncomputable def b_Inc_spent_0 (f : Nat) (v0 : Nat) (m : Mm) : Option Rs := ab_ex KT none s_Inc_spent eV_Inc_spent eI_Inc_spent i_Inc_spent h_Inc_spent f 0 [some (.inr (.inr (15, some v0)))] [] m
set_option maxRecDepth 100000 in
set_option maxHeartbeats 4000000 in
theorem b_Inc_spent_0_eq (f : Nat) (v0 : Nat) (m : Mm) : b_Inc_spent_0 (f + 1) v0 m =
    if (m.1 51 v0 0) = 0 then
      some (.inl (some (.inl (m.1 47 v0 0)), m))
    else
      some (.inl (some (.inl (m.1 49 v0 0)), m)) := rfl
noncomputable def r_Inc_spent : Nat → Mm → Option (Int32 × Mm) := ab_seal fun v0 m => ab_rI (b_Inc_spent_0 50000 v0 m)
theorem r_Inc_spent_eq (v0 : Nat) (m : Mm) : r_Inc_spent v0 m = ab_rI (b_Inc_spent_0 50000 v0 m) := by
  unfold r_Inc_spent
  rw [ab_seal_eq]
noncomputable def c_Inc_spent : List AV → Mm → Option (Int32 × Mm) := fun av m => match av with
  | [.inr (.inr (kv0, ov0))] => if kv0 = 15 then (ov0.bind fun v0 => r_Inc_spent v0 m) else none
  | _ => none
theorem c_Inc_spent_inv {av : List AV} {m : Mm} {r : Int32 × Mm} (h : c_Inc_spent av m = some r) : ∃ (v0 : Nat), av = [.inr (.inr (15, some v0))] ∧ r_Inc_spent v0 m = some r := by
  unfold c_Inc_spent at h
  split at h
  · rename_i kv0 ov0
    by_cases hkv0 : kv0 = 15
    case neg => rw [if_neg hkv0] at h; cases h
    rw [if_pos hkv0] at h
    subst hkv0
    obtain ⟨v0, hev0, h⟩ := Option.bind_eq_some_iff.mp h
    subst hev0
    exact ⟨v0, rfl, h⟩
  · cases h
def cs_Inc_spent : List Nat := []
set_option maxRecDepth 100000 in
theorem E_Inc_spent : ∀ (pc : Nat) (q : Ent), i_Inc_spent pc = some q → ab_E KT CL ab_gW "StreamTransport$Incoming" "spent" (some .int) prog_3_method_3_code s_Inc_spent 1 pc q.1 q.2.1 q.2.2.1 q.2.2.2.1 q.2.2.2.2 := fun pc q hq =>
  ab_Eb_ok lc_Inc lj_Inc fl_Inc (fpn_Inc "spent") nw_Inc na_Inc nq_Inc (ab_tab_all (t := t_Inc_spent) (chk := fun pc q => ab_Eb (some .int) prog_3_method_3_code s_Inc_spent 1 LC_Inc LJ_Inc FL_Inc FPn_Inc NW_Inc NA_Inc NQ_Inc pc q.1 q.2.1 q.2.2.1 q.2.2.2.1 q.2.2.2.2) (by decide +kernel) hq)
set_option maxRecDepth 100000 in
theorem kp_Inc_spent {av : List AV} {m : Mm} {r : Int32 × Mm} (h : c_Inc_spent av m = some r) : ab_kp m r.2 := by
  obtain ⟨v0, -, h⟩ := c_Inc_spent_inv h
  rw [r_Inc_spent_eq] at h
  have hV : ∀ a av m m', eV_Inc_spent a av m = some m' → ab_kp m m' := ab_ev_all (P := fun _ m r => ab_kp m r) [] (fun q hq => by cases hq)
  have hI : ∀ a av m q, eI_Inc_spent a av m = some q → ab_kp m q.2 := ab_ev_all (P := fun _ (m : Mm) (r : Int32 × Mm) => ab_kp m r.2) [] (fun q hq => by cases hq)
  exact ab_kprel (ρ := .inl (some (.inl r.1), r.2)) (ab_tab_isn (t := t_Inc_spent) (by decide +kernel)) hV hI (ab_rI_inv h)
set_option maxRecDepth 100000 in
theorem cl_Inc_spent (l : Launch) : ∀ (pc : Nat) (q : Ent), i_Inc_spent pc = some q → ab_inv q.1 = true → ab_CR l KT CL none ab_gW "StreamTransport$Incoming" prog_3_method_3_code 1 0 0 eV_Inc_spent eI_Inc_spent pc q := by
  intro pc q hq hi
  have hm : pc ∈ cs_Inc_spent := ab_tab_cs (t := t_Inc_spent) (by decide +kernel) hq hi
  cases hm
theorem cw_Inc_spent : ab_cw y_Inc_spent prog_3_method_3_code 1 0 (some .int) := ⟨ab_gW_in 502 (by decide +kernel) rfl, ab_gW_in 67 (by decide +kernel) rfl, by decide +kernel, by decide +kernel, by decide +kernel⟩
theorem is_Inc_spent : Cond.instanceMethod y_Inc_spent ∈ ab_gW := ab_gW_in 500 (by decide +kernel) rfl
theorem sl_Inc_spent : Cond.selects "StreamTransport$Incoming" y_Inc_spent y_Inc_spent ∈ ab_gW := ab_gW_in 501 (by decide +kernel) rfl
set_option maxRecDepth 100000 in
theorem cm_Inc_spent (l : Launch) {av : List AV} {m : Mm} {r : Int32 × Mm} (h0 : c_Inc_spent av m = some r) : ∃ (k q : Nat) (av' : List AV) (ci : Nat) (fs : List (Nat × Nat × Nat × Nat)) (z : vw_C), av = .inr (.inr (k, some q)) :: av' ∧ av'.length = 0 ∧ k ≠ 0 ∧ KT[k]? = some (.inl (ci, fs)) ∧ CL[ci]? = some z ∧ z.1 = "StreamTransport$Incoming" ∧ ab_nos av' ∧ ab_Met l KT CL y_Inc_spent (Cond.code y_Inc_spent prog_3_method_3_code 1 (some .int) :: ab_gW) 0 0 none av m (some (.inl r.1)) r.2 := by
  obtain ⟨v0, hav, h⟩ := c_Inc_spent_inv h0
  rw [r_Inc_spent_eq] at h
  have hmo : ab_mo m r.2 := ab_kp_mo (kp_Inc_spent h0)
  subst hav
  exact ⟨_, _, _, _, _, _, rfl, rfl, by decide, rfl, rfl, rfl, (by intro v hv q e; subst e; simp at hv), ab_met (by decide +kernel) KT_0 KT_nd KT_k3 E_Inc_spent (cl_Inc_spent l) hmo (Nat.le_of_ble_eq_true rfl) (ab_rI_inv h) (fun v hv => by cases hv; exact ⟨_, rfl⟩)⟩
/-! StreamTransport$Incoming.isWrongSize(IZ)Z -/
def y_Inc_isWrongSize : MethodName := ⟨"StreamTransport$Incoming", "isWrongSize", "(IZ)Z"⟩
def t_Inc_isWrongSize (pc : Nat) : Option Ent :=
  bif Nat.blt pc 23 then
    (bif Nat.blt pc 12 then
      (bif Nat.blt pc 5 then
        (bif Nat.blt pc 1 then
          (bif Nat.beq pc 0 then some (.iload_n 2, 2, 0, 0, 0) else none)
        else
          bif Nat.blt pc 4 then
            (bif Nat.beq pc 1 then some (.ifCond .eq (13), 14, 0, 0, 0) else none)
          else
            bif Nat.beq pc 4 then some (.iload_n 1, 1, 0, 0, 0) else none)
      else
        bif Nat.blt pc 6 then
          (bif Nat.beq pc 5 then some (.aload_n 0, 0, 0, 0, 0) else none)
        else
          bif Nat.blt pc 9 then
            (bif Nat.beq pc 6 then some (.getfield 35, 1, 2, 0, 0) else none)
          else
            bif Nat.beq pc 9 then some (.if_icmp .ge (5), 14, 0, 0, 0) else none)
    else
      bif Nat.blt pc 15 then
        (bif Nat.blt pc 13 then
          (bif Nat.beq pc 12 then some (.iconst 1, 0, 0, 0, 1) else none)
        else
          bif Nat.blt pc 14 then
            (bif Nat.beq pc 13 then some (.ireturn, 0, 0, 1, 0) else none)
          else
            bif Nat.beq pc 14 then some (.aload_n 0, 0, 0, 0, 0) else none)
      else
        bif Nat.blt pc 19 then
          (bif Nat.blt pc 18 then
            (bif Nat.beq pc 15 then some (.getfield 15, 1, 3, 0, 0) else none)
          else
            bif Nat.beq pc 18 then some (.iconst (-1), 0, 0, 0, -1) else none)
        else
          bif Nat.blt pc 22 then
            (bif Nat.beq pc 19 then some (.if_icmp .eq (30), 49, 0, 0, 0) else none)
          else
            bif Nat.beq pc 22 then some (.iload_n 2, 2, 0, 0, 0) else none)
  else
    bif Nat.blt pc 38 then
      (bif Nat.blt pc 28 then
        (bif Nat.blt pc 26 then
          (bif Nat.beq pc 23 then some (.ifCond .eq (14), 37, 0, 0, 0) else none)
        else
          bif Nat.blt pc 27 then
            (bif Nat.beq pc 26 then some (.iload_n 1, 1, 0, 0, 0) else none)
          else
            bif Nat.beq pc 27 then some (.aload_n 0, 0, 0, 0, 0) else none)
      else
        bif Nat.blt pc 34 then
          (bif Nat.blt pc 31 then
            (bif Nat.beq pc 28 then some (.getfield 15, 1, 3, 0, 0) else none)
          else
            bif Nat.beq pc 31 then some (.if_icmp .eq (18), 49, 0, 0, 0) else none)
        else
          bif Nat.blt pc 37 then
            (bif Nat.beq pc 34 then some (.goto 11, 45, 0, 0, 0) else none)
          else
            bif Nat.beq pc 37 then some (.iload_n 1, 1, 0, 0, 0) else none)
    else
      bif Nat.blt pc 45 then
        (bif Nat.blt pc 39 then
          (bif Nat.beq pc 38 then some (.aload_n 0, 0, 0, 0, 0) else none)
        else
          bif Nat.blt pc 42 then
            (bif Nat.beq pc 39 then some (.getfield 15, 1, 3, 0, 0) else none)
          else
            bif Nat.beq pc 42 then some (.if_icmp .le (7), 49, 0, 0, 0) else none)
      else
        bif Nat.blt pc 49 then
          (bif Nat.blt pc 46 then
            (bif Nat.beq pc 45 then some (.iconst 1, 0, 0, 0, 1) else none)
          else
            bif Nat.beq pc 46 then some (.goto 4, 50, 0, 0, 0) else none)
        else
          bif Nat.blt pc 50 then
            (bif Nat.beq pc 49 then some (.iconst 0, 0, 0, 0, 0) else none)
          else
            bif Nat.beq pc 50 then some (.ireturn, 0, 0, 1, 0) else none
def i_Inc_isWrongSize : Nat → Option Ent := ab_tab 51 t_Inc_isWrongSize
def h_Inc_isWrongSize (pc : Nat) : Nat × List Bool := bif Nat.beq pc 14 then (1, [true, true, true]) else bif Nat.beq pc 45 then (1, [false, false, false]) else (0, [])
def s_Inc_isWrongSize (pc : Nat) : List (Int32 × Nat) × Nat := ([], 0)
noncomputable def eV_Inc_isWrongSize : Nat → List AV → Mm → Option Mm := ab_ev []
noncomputable def eI_Inc_isWrongSize : Nat → List AV → Mm → Option (Int32 × Mm) := ab_ev []
noncomputable def b_Inc_isWrongSize_0 (f : Nat) (v0 : Nat) (v1 : Int32) (v2 : Int32) (m : Mm) : Option Rs := ab_ex KT none s_Inc_isWrongSize eV_Inc_isWrongSize eI_Inc_isWrongSize i_Inc_isWrongSize h_Inc_isWrongSize f 0 [some (.inr (.inr (15, some v0))), some (.inl v1), some (.inl v2)] [] m
noncomputable def b_Inc_isWrongSize_14 (f : Nat) (v0 : Nat) (v1 : Int32) (v2 : Int32) (m : Mm) : Option Rs := ab_ex KT none s_Inc_isWrongSize eV_Inc_isWrongSize eI_Inc_isWrongSize i_Inc_isWrongSize h_Inc_isWrongSize f 14 [some (.inr (.inr (15, some v0))), some (.inl v1), some (.inl v2)] [] m
noncomputable def b_Inc_isWrongSize_45 (f : Nat)  (m : Mm) : Option Rs := ab_ex KT none s_Inc_isWrongSize eV_Inc_isWrongSize eI_Inc_isWrongSize i_Inc_isWrongSize h_Inc_isWrongSize f 45 [none, none, none] [] m
set_option maxRecDepth 100000 in
set_option maxHeartbeats 4000000 in
theorem b_Inc_isWrongSize_0_eq (f : Nat) (v0 : Nat) (v1 : Int32) (v2 : Int32) (m : Mm) : b_Inc_isWrongSize_0 (f + 1) v0 v1 v2 m =
    if v2 = 0 then
      b_Inc_isWrongSize_14 f v0 v1 v2 m
    else
      if (m.1 48 v0 0) ≤ v1 then
        b_Inc_isWrongSize_14 f v0 v1 v2 m
      else
        (ab_bo (1 : Int32)).bind fun y1 => some (.inl (some (.inl y1), m)) := rfl
set_option maxRecDepth 100000 in
set_option maxHeartbeats 4000000 in
theorem b_Inc_isWrongSize_14_eq (f : Nat) (v0 : Nat) (v1 : Int32) (v2 : Int32) (m : Mm) : b_Inc_isWrongSize_14 (f + 1) v0 v1 v2 m =
    if (m.1 49 v0 0) = (-1 : Int32) then
      (ab_bo (0 : Int32)).bind fun y1 => some (.inl (some (.inl y1), m))
    else
      if v2 = 0 then
        if v1 ≤ (m.1 49 v0 0) then
          (ab_bo (0 : Int32)).bind fun y2 => some (.inl (some (.inl y2), m))
        else
          b_Inc_isWrongSize_45 f  m
      else
        if v1 = (m.1 49 v0 0) then
          (ab_bo (0 : Int32)).bind fun y3 => some (.inl (some (.inl y3), m))
        else
          b_Inc_isWrongSize_45 f  m := rfl
set_option maxRecDepth 100000 in
set_option maxHeartbeats 4000000 in
theorem b_Inc_isWrongSize_45_eq (f : Nat)  (m : Mm) : b_Inc_isWrongSize_45 (f + 1)  m =
    (ab_bo (1 : Int32)).bind fun y1 => some (.inl (some (.inl y1), m)) := rfl
noncomputable def r_Inc_isWrongSize : Nat → Int32 → Int32 → Mm → Option (Int32 × Mm) := ab_seal fun v0 v1 v2 m => ab_rI (b_Inc_isWrongSize_0 50000 v0 v1 v2 m)
theorem r_Inc_isWrongSize_eq (v0 : Nat) (v1 : Int32) (v2 : Int32) (m : Mm) : r_Inc_isWrongSize v0 v1 v2 m = ab_rI (b_Inc_isWrongSize_0 50000 v0 v1 v2 m) := by
  unfold r_Inc_isWrongSize
  rw [ab_seal_eq]
noncomputable def c_Inc_isWrongSize : List AV → Mm → Option (Int32 × Mm) := fun av m => match av with
  | [.inr (.inr (kv0, ov0)), .inl v1, .inl v2] => if kv0 = 15 then (ov0.bind fun v0 => r_Inc_isWrongSize v0 v1 v2 m) else none
  | _ => none
theorem c_Inc_isWrongSize_inv {av : List AV} {m : Mm} {r : Int32 × Mm} (h : c_Inc_isWrongSize av m = some r) : ∃ (v0 : Nat) (v1 : Int32) (v2 : Int32), av = [.inr (.inr (15, some v0)), .inl v1, .inl v2] ∧ r_Inc_isWrongSize v0 v1 v2 m = some r := by
  unfold c_Inc_isWrongSize at h
  split at h
  · rename_i kv0 ov0 v1 v2
    by_cases hkv0 : kv0 = 15
    case neg => rw [if_neg hkv0] at h; cases h
    rw [if_pos hkv0] at h
    subst hkv0
    obtain ⟨v0, hev0, h⟩ := Option.bind_eq_some_iff.mp h
    subst hev0
    exact ⟨v0, v1, v2, rfl, h⟩
  · cases h
def cs_Inc_isWrongSize : List Nat := []
set_option maxRecDepth 100000 in
theorem E_Inc_isWrongSize : ∀ (pc : Nat) (q : Ent), i_Inc_isWrongSize pc = some q → ab_E KT CL ab_gW "StreamTransport$Incoming" "isWrongSize" (some .boolean) prog_3_method_4_code s_Inc_isWrongSize 3 pc q.1 q.2.1 q.2.2.1 q.2.2.2.1 q.2.2.2.2 := fun pc q hq =>
  ab_Eb_ok lc_Inc lj_Inc fl_Inc (fpn_Inc "isWrongSize") nw_Inc na_Inc nq_Inc (ab_tab_all (t := t_Inc_isWrongSize) (chk := fun pc q => ab_Eb (some .boolean) prog_3_method_4_code s_Inc_isWrongSize 3 LC_Inc LJ_Inc FL_Inc FPn_Inc NW_Inc NA_Inc NQ_Inc pc q.1 q.2.1 q.2.2.1 q.2.2.2.1 q.2.2.2.2) (by decide +kernel) hq)
set_option maxRecDepth 100000 in
theorem kp_Inc_isWrongSize {av : List AV} {m : Mm} {r : Int32 × Mm} (h : c_Inc_isWrongSize av m = some r) : ab_kp m r.2 := by
  obtain ⟨v0, v1, v2, -, h⟩ := c_Inc_isWrongSize_inv h
  rw [r_Inc_isWrongSize_eq] at h
  have hV : ∀ a av m m', eV_Inc_isWrongSize a av m = some m' → ab_kp m m' := ab_ev_all (P := fun _ m r => ab_kp m r) [] (fun q hq => by cases hq)
  have hI : ∀ a av m q, eI_Inc_isWrongSize a av m = some q → ab_kp m q.2 := ab_ev_all (P := fun _ (m : Mm) (r : Int32 × Mm) => ab_kp m r.2) [] (fun q hq => by cases hq)
  exact ab_kprel (ρ := .inl (some (.inl r.1), r.2)) (ab_tab_isn (t := t_Inc_isWrongSize) (by decide +kernel)) hV hI (ab_rI_inv h)
set_option maxRecDepth 100000 in
theorem cl_Inc_isWrongSize (l : Launch) : ∀ (pc : Nat) (q : Ent), i_Inc_isWrongSize pc = some q → ab_inv q.1 = true → ab_CR l KT CL none ab_gW "StreamTransport$Incoming" prog_3_method_4_code 3 0 0 eV_Inc_isWrongSize eI_Inc_isWrongSize pc q := by
  intro pc q hq hi
  have hm : pc ∈ cs_Inc_isWrongSize := ab_tab_cs (t := t_Inc_isWrongSize) (by decide +kernel) hq hi
  cases hm
theorem cw_Inc_isWrongSize : ab_cw y_Inc_isWrongSize prog_3_method_4_code 3 2 (some .boolean) := ⟨ab_gW_in 718 (by decide +kernel) rfl, ab_gW_in 67 (by decide +kernel) rfl, by decide +kernel, by decide +kernel, by decide +kernel⟩
theorem is_Inc_isWrongSize : Cond.instanceMethod y_Inc_isWrongSize ∈ ab_gW := ab_gW_in 716 (by decide +kernel) rfl
theorem sl_Inc_isWrongSize : Cond.selects "StreamTransport$Incoming" y_Inc_isWrongSize y_Inc_isWrongSize ∈ ab_gW := ab_gW_in 717 (by decide +kernel) rfl
set_option maxRecDepth 100000 in
theorem cm_Inc_isWrongSize (l : Launch) {av : List AV} {m : Mm} {r : Int32 × Mm} (h0 : c_Inc_isWrongSize av m = some r) : ∃ (k q : Nat) (av' : List AV) (ci : Nat) (fs : List (Nat × Nat × Nat × Nat)) (z : vw_C), av = .inr (.inr (k, some q)) :: av' ∧ av'.length = 2 ∧ k ≠ 0 ∧ KT[k]? = some (.inl (ci, fs)) ∧ CL[ci]? = some z ∧ z.1 = "StreamTransport$Incoming" ∧ ab_nos av' ∧ ab_Met l KT CL y_Inc_isWrongSize (Cond.code y_Inc_isWrongSize prog_3_method_4_code 3 (some .boolean) :: ab_gW) 0 0 none av m (some (.inl r.1)) r.2 := by
  obtain ⟨v0, v1, v2, hav, h⟩ := c_Inc_isWrongSize_inv h0
  rw [r_Inc_isWrongSize_eq] at h
  have hmo : ab_mo m r.2 := ab_kp_mo (kp_Inc_isWrongSize h0)
  subst hav
  exact ⟨_, _, _, _, _, _, rfl, rfl, by decide, rfl, rfl, rfl, (by intro v hv q e; subst e; simp at hv), ab_met (by decide +kernel) KT_0 KT_nd KT_k3 E_Inc_isWrongSize (cl_Inc_isWrongSize l) hmo (Nat.le_of_ble_eq_true rfl) (ab_rI_inv h) (fun v hv => by cases hv; exact ⟨_, rfl⟩)⟩
/-! StreamTransport$Incoming.reachTo(IZ)V -/
def y_Inc_reachTo : MethodName := ⟨"StreamTransport$Incoming", "reachTo", "(IZ)V"⟩
def t_Inc_reachTo (pc : Nat) : Option Ent :=
  bif Nat.blt pc 12 then
    (bif Nat.blt pc 5 then
      (bif Nat.blt pc 1 then
        (bif Nat.beq pc 0 then some (.aload_n 0, 0, 0, 0, 0) else none)
      else
        bif Nat.blt pc 2 then
          (bif Nat.beq pc 1 then some (.aload_n 0, 0, 0, 0, 0) else none)
        else
          bif Nat.beq pc 2 then some (.getfield 35, 1, 2, 0, 0) else none)
    else
      bif Nat.blt pc 6 then
        (bif Nat.beq pc 5 then some (.iload_n 1, 1, 0, 0, 0) else none)
      else
        bif Nat.blt pc 9 then
          (bif Nat.beq pc 6 then some (.invokestatic 38, 1, 2, 1, 0) else none)
        else
          bif Nat.beq pc 9 then some (.putfield 35, 1, 2, 0, 0) else none)
  else
    bif Nat.blt pc 17 then
      (bif Nat.blt pc 13 then
        (bif Nat.beq pc 12 then some (.iload_n 2, 2, 0, 0, 0) else none)
      else
        bif Nat.blt pc 16 then
          (bif Nat.beq pc 13 then some (.ifCond .eq (8), 21, 0, 0, 0) else none)
        else
          bif Nat.beq pc 16 then some (.aload_n 0, 0, 0, 0, 0) else none)
    else
      bif Nat.blt pc 18 then
        (bif Nat.beq pc 17 then some (.iload_n 1, 1, 0, 0, 0) else none)
      else
        bif Nat.blt pc 21 then
          (bif Nat.beq pc 18 then some (.putfield 15, 1, 3, 0, 0) else none)
        else
          bif Nat.beq pc 21 then some (.return_, 0, 0, 0, 0) else none
def i_Inc_reachTo : Nat → Option Ent := ab_tab 22 t_Inc_reachTo
def h_Inc_reachTo (pc : Nat) : Nat × List Bool := (0, [])
def s_Inc_reachTo (pc : Nat) : List (Int32 × Nat) × Nat := ([], 0)
noncomputable def eV_Inc_reachTo : Nat → List AV → Mm → Option Mm := ab_ev []
noncomputable def eI_Inc_reachTo : Nat → List AV → Mm → Option (Int32 × Mm) := ab_ev [(1, c_Math_max)]
noncomputable def b_Inc_reachTo_0 (f : Nat) (v0 : Nat) (v1 : Int32) (v2 : Int32) (m : Mm) : Option Rs := ab_ex KT none s_Inc_reachTo eV_Inc_reachTo eI_Inc_reachTo i_Inc_reachTo h_Inc_reachTo f 0 [some (.inr (.inr (15, some v0))), some (.inl v1), some (.inl v2)] [] m
set_option maxRecDepth 100000 in
set_option maxHeartbeats 4000000 in
theorem b_Inc_reachTo_0_eq (f : Nat) (v0 : Nat) (v1 : Int32) (v2 : Int32) (m : Mm) : b_Inc_reachTo_0 (f + 1) v0 v1 v2 m =
    (r_Math_max (m.1 48 v0 0) v1 m).bind fun z1 =>
    ab_let (ab_uI z1.2 48 v0 0 z1.1) fun m2 =>
    if v2 = 0 then
      some (.inl (none, m2))
    else
      ab_let (ab_uI m2 49 v0 0 v1) fun m3 =>
      some (.inl (none, m3)) := rfl
noncomputable def r_Inc_reachTo : Nat → Int32 → Int32 → Mm → Option Mm := ab_seal fun v0 v1 v2 m => ab_rV (b_Inc_reachTo_0 50000 v0 v1 v2 m)
theorem r_Inc_reachTo_eq (v0 : Nat) (v1 : Int32) (v2 : Int32) (m : Mm) : r_Inc_reachTo v0 v1 v2 m = ab_rV (b_Inc_reachTo_0 50000 v0 v1 v2 m) := by
  unfold r_Inc_reachTo
  rw [ab_seal_eq]
noncomputable def c_Inc_reachTo : List AV → Mm → Option Mm := fun av m => match av with
  | [.inr (.inr (kv0, ov0)), .inl v1, .inl v2] => if kv0 = 15 then (ov0.bind fun v0 => r_Inc_reachTo v0 v1 v2 m) else none
  | _ => none
theorem c_Inc_reachTo_inv {av : List AV} {m : Mm} {r : Mm} (h : c_Inc_reachTo av m = some r) : ∃ (v0 : Nat) (v1 : Int32) (v2 : Int32), av = [.inr (.inr (15, some v0)), .inl v1, .inl v2] ∧ r_Inc_reachTo v0 v1 v2 m = some r := by
  unfold c_Inc_reachTo at h
  split at h
  · rename_i kv0 ov0 v1 v2
    by_cases hkv0 : kv0 = 15
    case neg => rw [if_neg hkv0] at h; cases h
    rw [if_pos hkv0] at h
    subst hkv0
    obtain ⟨v0, hev0, h⟩ := Option.bind_eq_some_iff.mp h
    subst hev0
    exact ⟨v0, v1, v2, rfl, h⟩
  · cases h
def cs_Inc_reachTo : List Nat := [6]
set_option maxRecDepth 100000 in
theorem E_Inc_reachTo : ∀ (pc : Nat) (q : Ent), i_Inc_reachTo pc = some q → ab_E KT CL ab_gW "StreamTransport$Incoming" "reachTo" none prog_3_method_5_code s_Inc_reachTo 3 pc q.1 q.2.1 q.2.2.1 q.2.2.2.1 q.2.2.2.2 := fun pc q hq =>
  ab_Eb_ok lc_Inc lj_Inc fl_Inc (fpn_Inc "reachTo") nw_Inc na_Inc nq_Inc (ab_tab_all (t := t_Inc_reachTo) (chk := fun pc q => ab_Eb none prog_3_method_5_code s_Inc_reachTo 3 LC_Inc LJ_Inc FL_Inc FPn_Inc NW_Inc NA_Inc NQ_Inc pc q.1 q.2.1 q.2.2.1 q.2.2.2.1 q.2.2.2.2) (by decide +kernel) hq)
set_option maxRecDepth 100000 in
theorem kp_Inc_reachTo {av : List AV} {m : Mm} {r : Mm} (h : c_Inc_reachTo av m = some r) : ab_kp m r := by
  obtain ⟨v0, v1, v2, -, h⟩ := c_Inc_reachTo_inv h
  rw [r_Inc_reachTo_eq] at h
  have hV : ∀ a av m m', eV_Inc_reachTo a av m = some m' → ab_kp m m' := ab_ev_all (P := fun _ m r => ab_kp m r) [] (fun q hq => by cases hq)
  have hI : ∀ a av m q, eI_Inc_reachTo a av m = some q → ab_kp m q.2 := ab_ev_all (P := fun _ (m : Mm) (r : Int32 × Mm) => ab_kp m r.2) [(1, c_Math_max)] (List.forall_mem_cons.mpr ⟨fun av m r h => kp_Math_max h, fun q hq => by cases hq⟩)
  exact ab_kprel (ρ := .inl (none, r)) (ab_tab_isn (t := t_Inc_reachTo) (by decide +kernel)) hV hI (ab_rV_inv h)
set_option maxRecDepth 100000 in
theorem cl_Inc_reachTo (l : Launch) : ∀ (pc : Nat) (q : Ent), i_Inc_reachTo pc = some q → ab_inv q.1 = true → ab_CR l KT CL none ab_gW "StreamTransport$Incoming" prog_3_method_5_code 3 1 21 eV_Inc_reachTo eI_Inc_reachTo pc q := by
  intro pc q hq hi
  have hm : pc ∈ cs_Inc_reachTo := ab_tab_cs (t := t_Inc_reachTo) (by decide +kernel) hq hi
  simp only [cs_Inc_reachTo, List.mem_cons, List.not_mem_nil, or_false] at hm
  rcases hm with rfl
  · cases (Option.some.inj hq : ((.invokestatic 38, 1, 2, 1, 0) : Ent) = q)
    exact ab_crS (by decide +kernel) cw_Math_max (ab_gW_in 731 (by decide +kernel) rfl) st_Math_max (by decide) (fun av m m' h => by cases h) (fun av m r h => cm_Math_max l h) KT_nd
theorem cw_Inc_reachTo : ab_cw y_Inc_reachTo prog_3_method_5_code 3 2 none := ⟨ab_gW_in 730 (by decide +kernel) rfl, ab_gW_in 67 (by decide +kernel) rfl, by decide +kernel, by decide +kernel, by decide +kernel⟩
theorem is_Inc_reachTo : Cond.instanceMethod y_Inc_reachTo ∈ ab_gW := ab_gW_in 728 (by decide +kernel) rfl
theorem sl_Inc_reachTo : Cond.selects "StreamTransport$Incoming" y_Inc_reachTo y_Inc_reachTo ∈ ab_gW := ab_gW_in 729 (by decide +kernel) rfl
set_option maxRecDepth 100000 in
theorem cm_Inc_reachTo (l : Launch) {av : List AV} {m : Mm} {r : Mm} (h0 : c_Inc_reachTo av m = some r) : ∃ (k q : Nat) (av' : List AV) (ci : Nat) (fs : List (Nat × Nat × Nat × Nat)) (z : vw_C), av = .inr (.inr (k, some q)) :: av' ∧ av'.length = 2 ∧ k ≠ 0 ∧ KT[k]? = some (.inl (ci, fs)) ∧ CL[ci]? = some z ∧ z.1 = "StreamTransport$Incoming" ∧ ab_nos av' ∧ ab_Met l KT CL y_Inc_reachTo (Cond.code y_Inc_reachTo prog_3_method_5_code 3 none :: ab_gW) 1 21 none av m none r := by
  obtain ⟨v0, v1, v2, hav, h⟩ := c_Inc_reachTo_inv h0
  rw [r_Inc_reachTo_eq] at h
  have hmo : ab_mo m r := ab_kp_mo (kp_Inc_reachTo h0)
  subst hav
  exact ⟨_, _, _, _, _, _, rfl, rfl, by decide, rfl, rfl, rfl, (by intro v hv q e; subst e; simp at hv), ab_met (by decide +kernel) KT_0 KT_nd KT_k3 E_Inc_reachTo (cl_Inc_reachTo l) hmo (Nat.le_of_ble_eq_true rfl) (ab_rV_inv h) (fun v hv => by cases hv)⟩
/-! StreamTransport$Incoming.keep(II)V -/
def y_Inc_keep : MethodName := ⟨"StreamTransport$Incoming", "keep", "(II)V"⟩
def t_Inc_keep (pc : Nat) : Option Ent :=
  bif Nat.blt pc 24 then
    (bif Nat.blt pc 11 then
      (bif Nat.blt pc 5 then
        (bif Nat.blt pc 1 then
          (bif Nat.beq pc 0 then some (.iload_n 1, 1, 0, 0, 0) else none)
        else
          bif Nat.blt pc 4 then
            (bif Nat.beq pc 1 then some (.ifCond .lt (13), 14, 0, 0, 0) else none)
          else
            bif Nat.beq pc 4 then some (.iload_n 1, 1, 0, 0, 0) else none)
      else
        bif Nat.blt pc 7 then
          (bif Nat.beq pc 5 then some (.bipush 64, 0, 0, 0, 64) else none)
        else
          bif Nat.blt pc 10 then
            (bif Nat.beq pc 7 then some (.if_icmp .ge (7), 14, 0, 0, 0) else none)
          else
            bif Nat.beq pc 10 then some (.iconst 1, 0, 0, 0, 1) else none)
    else
      bif Nat.blt pc 16 then
        (bif Nat.blt pc 14 then
          (bif Nat.beq pc 11 then some (.goto 4, 15, 0, 0, 0) else none)
        else
          bif Nat.blt pc 15 then
            (bif Nat.beq pc 14 then some (.iconst 0, 0, 0, 0, 0) else none)
          else
            bif Nat.beq pc 15 then some (.istore_n 3, 3, 0, 0, 0) else none)
      else
        bif Nat.blt pc 20 then
          (bif Nat.blt pc 17 then
            (bif Nat.beq pc 16 then some (.aload_n 0, 0, 0, 0, 0) else none)
          else
            bif Nat.beq pc 17 then some (.getfield 31, 1, 5, 0, 0) else none)
        else
          bif Nat.blt pc 23 then
            (bif Nat.beq pc 20 then some (.ifCond .ne (24), 44, 0, 0, 0) else none)
          else
            bif Nat.beq pc 23 then some (.iload_n 3, 3, 0, 0, 0) else none)
  else
    bif Nat.blt pc 34 then
      (bif Nat.blt pc 31 then
        (bif Nat.blt pc 27 then
          (bif Nat.beq pc 24 then some (.ifCond .eq (20), 44, 0, 0, 0) else none)
        else
          bif Nat.blt pc 28 then
            (bif Nat.beq pc 27 then some (.aload_n 0, 0, 0, 0, 0) else none)
          else
            bif Nat.beq pc 28 then some (.getfield 9, 1, 0, 1, 0) else none)
      else
        bif Nat.blt pc 32 then
          (bif Nat.beq pc 31 then some (.iload_n 1, 1, 0, 0, 0) else none)
        else
          bif Nat.blt pc 33 then
            (bif Nat.beq pc 32 then some (.iaload, 0, 0, 0, 0) else none)
          else
            bif Nat.beq pc 33 then some (.iconst (-1), 0, 0, 0, -1) else none)
    else
      bif Nat.blt pc 41 then
        (bif Nat.blt pc 37 then
          (bif Nat.beq pc 34 then some (.if_icmp .ne (10), 44, 0, 0, 0) else none)
        else
          bif Nat.blt pc 38 then
            (bif Nat.beq pc 37 then some (.aload_n 0, 0, 0, 0, 0) else none)
          else
            bif Nat.beq pc 38 then some (.getfield 9, 1, 0, 1, 0) else none)
      else
        bif Nat.blt pc 43 then
          (bif Nat.blt pc 42 then
            (bif Nat.beq pc 41 then some (.iload_n 1, 1, 0, 0, 0) else none)
          else
            bif Nat.beq pc 42 then some (.iload_n 2, 2, 0, 0, 0) else none)
        else
          bif Nat.blt pc 44 then
            (bif Nat.beq pc 43 then some (.iastore, 0, 0, 0, 0) else none)
          else
            bif Nat.beq pc 44 then some (.return_, 0, 0, 0, 0) else none
def i_Inc_keep : Nat → Option Ent := ab_tab 45 t_Inc_keep
def h_Inc_keep (pc : Nat) : Nat × List Bool := bif Nat.beq pc 14 then (1, [true, true, true, false]) else bif Nat.beq pc 15 then (1, [true, true, true, false]) else (0, [])
def s_Inc_keep (pc : Nat) : List (Int32 × Nat) × Nat := ([], 0)
noncomputable def eV_Inc_keep : Nat → List AV → Mm → Option Mm := ab_ev []
noncomputable def eI_Inc_keep : Nat → List AV → Mm → Option (Int32 × Mm) := ab_ev []
noncomputable def b_Inc_keep_0 (f : Nat) (v0 : Nat) (v1 : Int32) (v2 : Int32) (m : Mm) : Option Rs := ab_ex KT none s_Inc_keep eV_Inc_keep eI_Inc_keep i_Inc_keep h_Inc_keep f 0 [some (.inr (.inr (15, some v0))), some (.inl v1), some (.inl v2), none] [] m
noncomputable def b_Inc_keep_14 (f : Nat) (v0 : Nat) (v1 : Int32) (v2 : Int32) (m : Mm) : Option Rs := ab_ex KT none s_Inc_keep eV_Inc_keep eI_Inc_keep i_Inc_keep h_Inc_keep f 14 [some (.inr (.inr (15, some v0))), some (.inl v1), some (.inl v2), none] [] m
noncomputable def b_Inc_keep_15 (f : Nat) (v0 : Nat) (v1 : Int32) (v2 : Int32) (u0 : Int32) (m : Mm) : Option Rs := ab_ex KT none s_Inc_keep eV_Inc_keep eI_Inc_keep i_Inc_keep h_Inc_keep f 15 [some (.inr (.inr (15, some v0))), some (.inl v1), some (.inl v2), none] [.inl u0] m
set_option maxRecDepth 100000 in
set_option maxHeartbeats 4000000 in
theorem b_Inc_keep_0_eq (f : Nat) (v0 : Nat) (v1 : Int32) (v2 : Int32) (m : Mm) : b_Inc_keep_0 (f + 1) v0 v1 v2 m =
    if v1 < 0 then
      b_Inc_keep_14 f v0 v1 v2 m
    else
      if (64 : Int32) ≤ v1 then
        b_Inc_keep_14 f v0 v1 v2 m
      else
        b_Inc_keep_15 f v0 v1 v2 (1 : Int32) m := rfl
set_option maxRecDepth 100000 in
set_option maxHeartbeats 4000000 in
theorem b_Inc_keep_14_eq (f : Nat) (v0 : Nat) (v1 : Int32) (v2 : Int32) (m : Mm) : b_Inc_keep_14 (f + 1) v0 v1 v2 m =
    b_Inc_keep_15 f v0 v1 v2 (0 : Int32) m := rfl
set_option maxRecDepth 100000 in
set_option maxHeartbeats 4000000 in
theorem b_Inc_keep_15_eq (f : Nat) (v0 : Nat) (v1 : Int32) (v2 : Int32) (u0 : Int32) (m : Mm) : b_Inc_keep_15 (f + 1) v0 v1 v2 u0 m =
    if (m.1 51 v0 0) = 0 then
      if u0 = 0 then
        some (.inl (none, m))
      else
        (ab_ix v1 64).bind fun i1 =>
        if (m.1 53 (v0 + 1) i1) = (-1 : Int32) then
          (ab_ix v1 64).bind fun i2 =>
          ab_let (ab_uI m 53 (v0 + 1) i2 v2) fun m3 =>
          some (.inl (none, m3))
        else
          some (.inl (none, m))
    else
      some (.inl (none, m)) := rfl
noncomputable def r_Inc_keep : Nat → Int32 → Int32 → Mm → Option Mm := ab_seal fun v0 v1 v2 m => ab_rV (b_Inc_keep_0 50000 v0 v1 v2 m)
theorem r_Inc_keep_eq (v0 : Nat) (v1 : Int32) (v2 : Int32) (m : Mm) : r_Inc_keep v0 v1 v2 m = ab_rV (b_Inc_keep_0 50000 v0 v1 v2 m) := by
  unfold r_Inc_keep
  rw [ab_seal_eq]
noncomputable def c_Inc_keep : List AV → Mm → Option Mm := fun av m => match av with
  | [.inr (.inr (kv0, ov0)), .inl v1, .inl v2] => if kv0 = 15 then (ov0.bind fun v0 => r_Inc_keep v0 v1 v2 m) else none
  | _ => none
theorem c_Inc_keep_inv {av : List AV} {m : Mm} {r : Mm} (h : c_Inc_keep av m = some r) : ∃ (v0 : Nat) (v1 : Int32) (v2 : Int32), av = [.inr (.inr (15, some v0)), .inl v1, .inl v2] ∧ r_Inc_keep v0 v1 v2 m = some r := by
  unfold c_Inc_keep at h
  split at h
  · rename_i kv0 ov0 v1 v2
    by_cases hkv0 : kv0 = 15
    case neg => rw [if_neg hkv0] at h; cases h
    rw [if_pos hkv0] at h
    subst hkv0
    obtain ⟨v0, hev0, h⟩ := Option.bind_eq_some_iff.mp h
    subst hev0
    exact ⟨v0, v1, v2, rfl, h⟩
  · cases h
def cs_Inc_keep : List Nat := []
set_option maxRecDepth 100000 in
theorem E_Inc_keep : ∀ (pc : Nat) (q : Ent), i_Inc_keep pc = some q → ab_E KT CL ab_gW "StreamTransport$Incoming" "keep" none prog_3_method_6_code s_Inc_keep 4 pc q.1 q.2.1 q.2.2.1 q.2.2.2.1 q.2.2.2.2 := fun pc q hq =>
  ab_Eb_ok lc_Inc lj_Inc fl_Inc (fpn_Inc "keep") nw_Inc na_Inc nq_Inc (ab_tab_all (t := t_Inc_keep) (chk := fun pc q => ab_Eb none prog_3_method_6_code s_Inc_keep 4 LC_Inc LJ_Inc FL_Inc FPn_Inc NW_Inc NA_Inc NQ_Inc pc q.1 q.2.1 q.2.2.1 q.2.2.2.1 q.2.2.2.2) (by decide +kernel) hq)
set_option maxRecDepth 100000 in
theorem kp_Inc_keep {av : List AV} {m : Mm} {r : Mm} (h : c_Inc_keep av m = some r) : ab_kp m r := by
  obtain ⟨v0, v1, v2, -, h⟩ := c_Inc_keep_inv h
  rw [r_Inc_keep_eq] at h
  have hV : ∀ a av m m', eV_Inc_keep a av m = some m' → ab_kp m m' := ab_ev_all (P := fun _ m r => ab_kp m r) [] (fun q hq => by cases hq)
  have hI : ∀ a av m q, eI_Inc_keep a av m = some q → ab_kp m q.2 := ab_ev_all (P := fun _ (m : Mm) (r : Int32 × Mm) => ab_kp m r.2) [] (fun q hq => by cases hq)
  exact ab_kprel (ρ := .inl (none, r)) (ab_tab_isn (t := t_Inc_keep) (by decide +kernel)) hV hI (ab_rV_inv h)
set_option maxRecDepth 100000 in
theorem cl_Inc_keep (l : Launch) : ∀ (pc : Nat) (q : Ent), i_Inc_keep pc = some q → ab_inv q.1 = true → ab_CR l KT CL none ab_gW "StreamTransport$Incoming" prog_3_method_6_code 4 0 0 eV_Inc_keep eI_Inc_keep pc q := by
  intro pc q hq hi
  have hm : pc ∈ cs_Inc_keep := ab_tab_cs (t := t_Inc_keep) (by decide +kernel) hq hi
  cases hm
theorem cw_Inc_keep : ab_cw y_Inc_keep prog_3_method_6_code 4 2 none := ⟨ab_gW_in 726 (by decide +kernel) rfl, ab_gW_in 67 (by decide +kernel) rfl, by decide +kernel, by decide +kernel, by decide +kernel⟩
theorem is_Inc_keep : Cond.instanceMethod y_Inc_keep ∈ ab_gW := ab_gW_in 724 (by decide +kernel) rfl
theorem sl_Inc_keep : Cond.selects "StreamTransport$Incoming" y_Inc_keep y_Inc_keep ∈ ab_gW := ab_gW_in 725 (by decide +kernel) rfl
set_option maxRecDepth 100000 in
theorem cm_Inc_keep (l : Launch) {av : List AV} {m : Mm} {r : Mm} (h0 : c_Inc_keep av m = some r) : ∃ (k q : Nat) (av' : List AV) (ci : Nat) (fs : List (Nat × Nat × Nat × Nat)) (z : vw_C), av = .inr (.inr (k, some q)) :: av' ∧ av'.length = 2 ∧ k ≠ 0 ∧ KT[k]? = some (.inl (ci, fs)) ∧ CL[ci]? = some z ∧ z.1 = "StreamTransport$Incoming" ∧ ab_nos av' ∧ ab_Met l KT CL y_Inc_keep (Cond.code y_Inc_keep prog_3_method_6_code 4 none :: ab_gW) 0 0 none av m none r := by
  obtain ⟨v0, v1, v2, hav, h⟩ := c_Inc_keep_inv h0
  rw [r_Inc_keep_eq] at h
  have hmo : ab_mo m r := ab_kp_mo (kp_Inc_keep h0)
  subst hav
  exact ⟨_, _, _, _, _, _, rfl, rfl, by decide, rfl, rfl, rfl, (by intro v hv q e; subst e; simp at hv), ab_met (by decide +kernel) KT_0 KT_nd KT_k3 E_Inc_keep (cl_Inc_keep l) hmo (Nat.le_of_ble_eq_true rfl) (ab_rV_inv h) (fun v hv => by cases hv)⟩
end
