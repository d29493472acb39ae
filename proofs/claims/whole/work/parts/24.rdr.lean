section
def FLp_Rdr : List ((Nat × Nat × Nat) × Nat) := [((9, 6, 0), 142), ((15, 6, 2), 147), ((19, 6, 4), 149), ((23, 7, 1), 103), ((28, 6, 5), 150), ((35, 6, 1), 145), ((49, 6, 3), 148), ((55, 7, 0), 100)]
def FL_Rdr : List (Nat × Nat × Nat) := [(9, 6, 0), (15, 6, 2), (19, 6, 4), (23, 7, 1), (28, 6, 5), (35, 6, 1), (49, 6, 3), (55, 7, 0)]
theorem fl_Rdr : ∀ q ∈ FL_Rdr, ab_fld CL ab_gW "StreamTransport$Reader" q.1 q.2.1 q.2.2 := ab_flb_ok (own := "StreamTransport$Reader") (l := FLp_Rdr) (by decide +kernel)
def FPnp_Rdr : List ((Nat × Nat × Nat) × Nat) := [((15, 6, 2), 147), ((19, 6, 4), 149), ((23, 7, 1), 103), ((28, 6, 5), 150), ((35, 6, 1), 145), ((49, 6, 3), 148)]
def FPn_Rdr : List (Nat × Nat × Nat) := [(15, 6, 2), (19, 6, 4), (23, 7, 1), (28, 6, 5), (35, 6, 1), (49, 6, 3)]
theorem fpn_Rdr (nm : String) : ∀ q ∈ FPn_Rdr, ∃ ty, ab_fldp CL ab_gW "StreamTransport$Reader" nm q.1 q.2.1 q.2.2 ty ∧ ∀ (k t r k' d' : Nat), ab_fs KT q.2.1 q.2.2 k = some (t, r, k', d') → (t = 0 → ty = .int) ∧ (t = 1 → ty = .boolean) ∧ (t = 2 → ((∃ n, ty = .object n) ∨ ∃ t, ty = .array t) ∧ k' ≠ 0) := ab_fpb_ok (own := "StreamTransport$Reader") (nm := nm) (l := FPnp_Rdr) (ab_fpn_ok (by decide +kernel))
def FPip_Rdr : List ((Nat × Nat × Nat) × Nat) := [((9, 6, 0), 142), ((15, 6, 2), 147), ((19, 6, 4), 149), ((23, 7, 1), 103), ((28, 6, 5), 150), ((35, 6, 1), 145), ((49, 6, 3), 148)]
def FPi_Rdr : List (Nat × Nat × Nat) := [(9, 6, 0), (15, 6, 2), (19, 6, 4), (23, 7, 1), (28, 6, 5), (35, 6, 1), (49, 6, 3)]
theorem fpi_Rdr : ∀ q ∈ FPi_Rdr, ∃ ty, ab_fldp CL ab_gW "StreamTransport$Reader" "<init>" q.1 q.2.1 q.2.2 ty ∧ ∀ (k t r k' d' : Nat), ab_fs KT q.2.1 q.2.2 k = some (t, r, k', d') → (t = 0 → ty = .int) ∧ (t = 1 → ty = .boolean) ∧ (t = 2 → ((∃ n, ty = .object n) ∨ ∃ t, ty = .array t) ∧ k' ≠ 0) := ab_fpb_ok (own := "StreamTransport$Reader") (nm := "<init>") (l := FPip_Rdr) (by decide +kernel)
def LCp_Rdr : List ((Nat × Int32) × Nat) := []
def LC_Rdr : List (Nat × Int32) := []
theorem lc_Rdr : ∀ q ∈ LC_Rdr, Cond.constant "StreamTransport$Reader" q.1 q.2 ∈ ab_gW := ab_lcb (own := "StreamTransport$Reader") (l := LCp_Rdr) (by decide +kernel)
def LJp_Rdr : List ((Nat × Nat) × Nat) := []
def LJ_Rdr : List (Nat × Nat) := []
theorem lj_Rdr : ∀ q ∈ LJ_Rdr, Cond.constantLong "StreamTransport$Reader" q.1 (Int64.ofNat q.2) ∈ ab_gW := ab_ljb (own := "StreamTransport$Reader") (l := LJp_Rdr) (by decide +kernel)
def NWp_Rdr : List ((Nat × Nat) × Nat × Nat × Nat) := []
def NW_Rdr : List (Nat × Nat) := []
theorem nw_Rdr : ∀ q ∈ NW_Rdr, ab_newok KT CL ab_gW "StreamTransport$Reader" q.1 q.2 := ab_nwb_ok (own := "StreamTransport$Reader") (l := NWp_Rdr) (by decide +kernel)
def NQp_Rdr : List ((Nat × Nat) × Nat) := []
def NQ_Rdr : List (Nat × Nat) := []
theorem nq_Rdr : ∀ q ∈ NQ_Rdr, ab_nqok KT CL ab_gW "StreamTransport$Reader" q.1 q.2 := ab_nqb_ok (own := "StreamTransport$Reader") (l := NQp_Rdr) (by decide +kernel)
def NA_Rdr : List (Nat × Nat) := [(0, 11)]
theorem na_Rdr : ∀ q ∈ NA_Rdr, (q.1 = 0 → ab_naok KT CL ab_gW .int q.2) ∧ (q.1 = 1 → ab_naok KT CL ab_gW .boolean q.2) ∧ (q.1 = 2 → ab_naok KT CL ab_gW .long q.2) := ab_nab_ok (by decide +kernel)
/-! StreamTransport$Reader.begin(LStreamTransport$Row;)V -/
def y_Rdr_begin : MethodName := ⟨"StreamTransport$Reader", "begin", "(LStreamTransport$Row;)V"⟩
def t_Rdr_begin (pc : Nat) : Option Ent :=
  bif Nat.blt pc 10 then
    (bif Nat.blt pc 5 then
      (bif Nat.blt pc 1 then
        (bif Nat.beq pc 0 then some (.aload_n 0, 0, 0, 0, 0) else none)
      else
        bif Nat.blt pc 2 then
          (bif Nat.beq pc 1 then some (.aload_n 1, 1, 0, 0, 0) else none)
        else
          bif Nat.beq pc 2 then some (.putfield 15, 6, 2, 1, 0) else none)
    else
      bif Nat.blt pc 6 then
        (bif Nat.beq pc 5 then some (.aload_n 0, 0, 0, 0, 0) else none)
      else
        bif Nat.blt pc 7 then
          (bif Nat.beq pc 6 then some (.iconst 1, 0, 0, 0, 1) else none)
        else
          bif Nat.beq pc 7 then some (.putfield 19, 6, 4, 0, 0) else none)
  else
    bif Nat.blt pc 15 then
      (bif Nat.blt pc 11 then
        (bif Nat.beq pc 10 then some (.aload_n 0, 0, 0, 0, 0) else none)
      else
        bif Nat.blt pc 12 then
          (bif Nat.beq pc 11 then some (.aload_n 1, 1, 0, 0, 0) else none)
        else
          bif Nat.beq pc 12 then some (.getfield 23, 7, 1, 0, 0) else none)
    else
      bif Nat.blt pc 17 then
        (bif Nat.blt pc 16 then
          (bif Nat.beq pc 15 then some (.iconst 2, 0, 0, 0, 2) else none)
        else
          bif Nat.beq pc 16 then some (.isub, 0, 0, 0, 0) else none)
      else
        bif Nat.blt pc 20 then
          (bif Nat.beq pc 17 then some (.putfield 28, 6, 5, 0, 0) else none)
        else
          bif Nat.beq pc 20 then some (.return_, 0, 0, 0, 0) else none
def i_Rdr_begin : Nat → Option Ent := ab_tab 21 t_Rdr_begin
def h_Rdr_begin (pc : Nat) : Nat × List Bool := (0, [])
def s_Rdr_begin (pc : Nat) : List (Int32 × Nat) × Nat := ([], 0)
noncomputable def eV_Rdr_begin : Nat → List AV → Mm → Option Mm := ab_ev []
noncomputable def eI_Rdr_begin : Nat → List AV → Mm → Option (Int32 × Mm) := ab_ev []
noncomputable def b_Rdr_begin_0 (f : Nat) (v0 : Nat) (v1 : Nat) (m : Mm) : Option Rs := ab_ex KT none s_Rdr_begin eV_Rdr_begin eI_Rdr_begin i_Rdr_begin h_Rdr_begin f 0 [some (.inr (.inr (10, some v0))), some (.inr (.inr (4, some v1)))] [] m
set_option maxRecDepth 100000 in
set_option maxHeartbeats 4000000 in
theorem b_Rdr_begin_0_eq (f : Nat) (v0 : Nat) (v1 : Nat) (m : Mm) : b_Rdr_begin_0 (f + 1) v0 v1 m =
    ab_let (ab_uR m 34 v0 0 (some v1)) fun m1 =>
    ab_let (ab_uI m1 36 v0 0 (1 : Int32)) fun m2 =>
    ab_let (ab_uI m2 37 v0 0 ((m2.1 11 v1 0) - (2 : Int32))) fun m3 =>
    some (.inl (none, m3)) := rfl
noncomputable def r_Rdr_begin : Nat → Nat → Mm → Option Mm := ab_seal fun v0 v1 m => ab_rV (b_Rdr_begin_0 50000 v0 v1 m)
theorem r_Rdr_begin_eq (v0 : Nat) (v1 : Nat) (m : Mm) : r_Rdr_begin v0 v1 m = ab_rV (b_Rdr_begin_0 50000 v0 v1 m) := by
  unfold r_Rdr_begin
  rw [ab_seal_eq]
noncomputable def c_Rdr_begin : List AV → Mm → Option Mm := fun av m => match av with
  | [.inr (.inr (kv0, ov0)), .inr (.inr (kv1, ov1))] => if kv0 = 10 then (if kv1 = 4 then (ov0.bind fun v0 => ov1.bind fun v1 => r_Rdr_begin v0 v1 m) else none) else none
  | _ => none
theorem c_Rdr_begin_inv {av : List AV} {m : Mm} {r : Mm} (h : c_Rdr_begin av m = some r) : ∃ (v0 : Nat) (v1 : Nat), av = [.inr (.inr (10, some v0)), .inr (.inr (4, some v1))] ∧ r_Rdr_begin v0 v1 m = some r := by
  unfold c_Rdr_begin at h
  split at h
  · rename_i kv0 ov0 kv1 ov1
    by_cases hkv0 : kv0 = 10
    case neg => rw [if_neg hkv0] at h; cases h
    rw [if_pos hkv0] at h
    subst hkv0
    by_cases hkv1 : kv1 = 4
    case neg => rw [if_neg hkv1] at h; cases h
    rw [if_pos hkv1] at h
    subst hkv1
    obtain ⟨v0, hev0, h⟩ := Option.bind_eq_some_iff.mp h
    obtain ⟨v1, hev1, h⟩ := Option.bind_eq_some_iff.mp h
    subst hev0
    subst hev1
    exact ⟨v0, v1, rfl, h⟩
  · cases h
def cs_Rdr_begin : List Nat := []
set_option maxRecDepth 100000 in
theorem E_Rdr_begin : ∀ (pc : Nat) (q : Ent), i_Rdr_begin pc = some q → ab_E KT CL ab_gW "StreamTransport$Reader" "begin" none prog_8_method_2_code s_Rdr_begin 2 pc q.1 q.2.1 q.2.2.1 q.2.2.2.1 q.2.2.2.2 := fun pc q hq =>
  ab_Eb_ok lc_Rdr lj_Rdr fl_Rdr (fpn_Rdr "begin") nw_Rdr na_Rdr nq_Rdr (ab_tab_all (t := t_Rdr_begin) (chk := fun pc q => ab_Eb none prog_8_method_2_code s_Rdr_begin 2 LC_Rdr LJ_Rdr FL_Rdr FPn_Rdr NW_Rdr NA_Rdr NQ_Rdr pc q.1 q.2.1 q.2.2.1 q.2.2.2.1 q.2.2.2.2) (by decide +kernel) hq)
set_option maxRecDepth 100000 in
theorem kp_Rdr_begin {av : List AV} {m : Mm} {r : Mm} (h : c_Rdr_begin av m = some r) : ab_kp m r := by
  obtain ⟨v0, v1, -, h⟩ := c_Rdr_begin_inv h
  rw [r_Rdr_begin_eq] at h
  have hV : ∀ a av m m', eV_Rdr_begin a av m = some m' → ab_kp m m' := ab_ev_all (P := fun _ m r => ab_kp m r) [] (fun q hq => by cases hq)
  have hI : ∀ a av m q, eI_Rdr_begin a av m = some q → ab_kp m q.2 := ab_ev_all (P := fun _ (m : Mm) (r : Int32 × Mm) => ab_kp m r.2) [] (fun q hq => by cases hq)
  exact ab_kprel (ρ := .inl (none, r)) (ab_tab_isn (t := t_Rdr_begin) (by decide +kernel)) hV hI (ab_rV_inv h)
set_option maxRecDepth 100000 in
theorem cl_Rdr_begin (l : Launch) : ∀ (pc : Nat) (q : Ent), i_Rdr_begin pc = some q → ab_inv q.1 = true → ab_CR l KT CL none ab_gW "StreamTransport$Reader" prog_8_method_2_code 2 0 0 eV_Rdr_begin eI_Rdr_begin pc q := by
  intro pc q hq hi
  have hm : pc ∈ cs_Rdr_begin := ab_tab_cs (t := t_Rdr_begin) (by decide +kernel) hq hi
  cases hm
theorem cw_Rdr_begin : ab_cw y_Rdr_begin prog_8_method_2_code 2 1 none := ⟨ab_gW_in 639 (by decide +kernel) rfl, ab_gW_in 65 (by decide +kernel) rfl, by decide +kernel, by decide +kernel, by decide +kernel⟩
theorem is_Rdr_begin : Cond.instanceMethod y_Rdr_begin ∈ ab_gW := ab_gW_in 637 (by decide +kernel) rfl
theorem sl_Rdr_begin : Cond.selects "StreamTransport$Reader" y_Rdr_begin y_Rdr_begin ∈ ab_gW := ab_gW_in 638 (by decide +kernel) rfl
set_option maxRecDepth 100000 in
theorem cm_Rdr_begin (l : Launch) {av : List AV} {m : Mm} {r : Mm} (h0 : c_Rdr_begin av m = some r) : ∃ (k q : Nat) (av' : List AV) (ci : Nat) (fs : List (Nat × Nat × Nat × Nat)) (z : vw_C), av = .inr (.inr (k, some q)) :: av' ∧ av'.length = 1 ∧ k ≠ 0 ∧ KT[k]? = some (.inl (ci, fs)) ∧ CL[ci]? = some z ∧ z.1 = "StreamTransport$Reader" ∧ ab_nos av' ∧ ab_Met l KT CL y_Rdr_begin (Cond.code y_Rdr_begin prog_8_method_2_code 2 none :: ab_gW) 0 0 none av m none r := by
  obtain ⟨v0, v1, hav, h⟩ := c_Rdr_begin_inv h0
  rw [r_Rdr_begin_eq] at h
  have hmo : ab_mo m r := ab_kp_mo (kp_Rdr_begin h0)
  subst hav
  exact ⟨_, _, _, _, _, _, rfl, rfl, by decide, rfl, rfl, rfl, (by intro v hv q e; subst e; simp at hv), ab_met (by decide +kernel) KT_0 KT_nd KT_k3 E_Rdr_begin (cl_Rdr_begin l) hmo (Nat.le_of_ble_eq_true rfl) (ab_rV_inv h) (fun v hv => by cases hv)⟩
/-! StreamTransport$Reader.hasMore()Z -/
def y_Rdr_hasMore : MethodName := ⟨"StreamTransport$Reader", "hasMore", "()Z"⟩
def t_Rdr_hasMore (pc : Nat) : Option Ent :=
  bif Nat.blt pc 8 then
    (bif Nat.blt pc 4 then
      (bif Nat.blt pc 1 then
        (bif Nat.beq pc 0 then some (.aload_n 0, 0, 0, 0, 0) else none)
      else
        bif Nat.beq pc 1 then some (.getfield 19, 6, 4, 0, 0) else none)
    else
      bif Nat.blt pc 5 then
        (bif Nat.beq pc 4 then some (.aload_n 0, 0, 0, 0, 0) else none)
      else
        bif Nat.beq pc 5 then some (.getfield 28, 6, 5, 0, 0) else none)
  else
    bif Nat.blt pc 12 then
      (bif Nat.blt pc 11 then
        (bif Nat.beq pc 8 then some (.if_icmp .ge (7), 15, 0, 0, 0) else none)
      else
        bif Nat.beq pc 11 then some (.iconst 1, 0, 0, 0, 1) else none)
    else
      bif Nat.blt pc 15 then
        (bif Nat.beq pc 12 then some (.goto 4, 16, 0, 0, 0) else none)
      else
        bif Nat.blt pc 16 then
          (bif Nat.beq pc 15 then some (.iconst 0, 0, 0, 0, 0) else none)
        else
          bif Nat.beq pc 16 then some (.ireturn, 0, 0, 1, 0) else none
def i_Rdr_hasMore : Nat → Option Ent := ab_tab 17 t_Rdr_hasMore
def h_Rdr_hasMore (pc : Nat) : Nat × List Bool := (0, [])
def s_Rdr_hasMore (pc : Nat) : List (Int32 × Nat) × Nat := ([], 0)
noncomputable def eV_Rdr_hasMore : Nat → List AV → Mm → Option Mm := ab_ev []
noncomputable def eI_Rdr_hasMore : Nat → List AV → Mm → Option (Int32 × Mm) := ab_ev []
noncomputable def b_Rdr_hasMore_0 (f : Nat) (v0 : Nat) (m : Mm) : Option Rs := ab_ex KT none s_Rdr_hasMore eV_Rdr_hasMore eI_Rdr_hasMore i_Rdr_hasMore h_Rdr_hasMore f 0 [some (.inr (.inr (10, some v0)))] [] m
set_option maxRecDepth 100000 in
set_option maxHeartbeats 4000000 in
theorem b_Rdr_hasMore_0_eq (f : Nat) (v0 : Nat) (m : Mm) : b_Rdr_hasMore_0 (f + 1) v0 m =
    if (m.1 37 v0 0) ≤ (m.1 36 v0 0) then
      (ab_bo (0 : Int32)).bind fun y1 => some (.inl (some (.inl y1), m))
    else
      (ab_bo (1 : Int32)).bind fun y2 => some (.inl (some (.inl y2), m)) := rfl
noncomputable def r_Rdr_hasMore : Nat → Mm → Option (Int32 × Mm) := ab_seal fun v0 m => ab_rI (b_Rdr_hasMore_0 50000 v0 m)
theorem r_Rdr_hasMore_eq (v0 : Nat) (m : Mm) : r_Rdr_hasMore v0 m = ab_rI (b_Rdr_hasMore_0 50000 v0 m) := by
  unfold r_Rdr_hasMore
  rw [ab_seal_eq]
noncomputable def c_Rdr_hasMore : List AV → Mm → Option (Int32 × Mm) := fun av m => match av with
  | [.inr (.inr (kv0, ov0))] => if kv0 = 10 then (ov0.bind fun v0 => r_Rdr_hasMore v0 m) else none
  | _ => none
theorem c_Rdr_hasMore_inv {av : List AV} {m : Mm} {r : Int32 × Mm} (h : c_Rdr_hasMore av m = some r) : ∃ (v0 : Nat), av = [.inr (.inr (10, some v0))] ∧ r_Rdr_hasMore v0 m = some r := by
  unfold c_Rdr_hasMore at h
  split at h
  · rename_i kv0 ov0
    by_cases hkv0 : kv0 = 10
    case neg => rw [if_neg hkv0] at h; cases h
    rw [if_pos hkv0] at h
    subst hkv0
    obtain ⟨v0, hev0, h⟩ := Option.bind_eq_some_iff.mp h
    subst hev0
    exact ⟨v0, rfl, h⟩
  · cases h
def cs_Rdr_hasMore : List Nat := []
set_option maxRecDepth 100000 in
theorem E_Rdr_hasMore : ∀ (pc : Nat) (q : Ent), i_Rdr_hasMore pc = some q → ab_E KT CL ab_gW "StreamTransport$Reader" "hasMore" (some .boolean) prog_8_method_3_code s_Rdr_hasMore 1 pc q.1 q.2.1 q.2.2.1 q.2.2.2.1 q.2.2.2.2 := fun pc q hq =>
  ab_Eb_ok lc_Rdr lj_Rdr fl_Rdr (fpn_Rdr "hasMore") nw_Rdr na_Rdr nq_Rdr (ab_tab_all (t := t_Rdr_hasMore) (chk := fun pc q => ab_Eb (some .boolean) prog_8_method_3_code s_Rdr_hasMore 1 LC_Rdr LJ_Rdr FL_Rdr FPn_Rdr NW_Rdr NA_Rdr NQ_Rdr pc q.1 q.2.1 q.2.2.1 q.2.2.2.1 q.2.2.2.2) (by decide +kernel) hq)
set_option maxRecDepth 100000 in
theorem kp_Rdr_hasMore {av : List AV} {m : Mm} {r : Int32 × Mm} (h : c_Rdr_hasMore av m = some r) : ab_kp m r.2 := by
  obtain ⟨v0, -, h⟩ := c_Rdr_hasMore_inv h
  rw [r_Rdr_hasMore_eq] at h
  have hV : ∀ a av m m', eV_Rdr_hasMore a av m = some m' → ab_kp m m' := ab_ev_all (P := fun _ m r => ab_kp m r) [] (fun q hq => by cases hq)
  have hI : ∀ a av m q, eI_Rdr_hasMore a av m = some q → ab_kp m q.2 := ab_ev_all (P := fun _ (m : Mm) (r : Int32 × Mm) => ab_kp m r.2) [] (fun q hq => by cases hq)
  exact ab_kprel (ρ := .inl (some (.inl r.1), r.2)) (ab_tab_isn (t := t_Rdr_hasMore) (by decide +kernel)) hV hI (ab_rI_inv h)
set_option maxRecDepth 100000 in
theorem cl_Rdr_hasMore (l : Launch) : ∀ (pc : Nat) (q : Ent), i_Rdr_hasMore pc = some q → ab_inv q.1 = true → ab_CR l KT CL none ab_gW "StreamTransport$Reader" prog_8_method_3_code 1 0 0 eV_Rdr_hasMore eI_Rdr_hasMore pc q := by
  intro pc q hq hi
  have hm : pc ∈ cs_Rdr_hasMore := ab_tab_cs (t := t_Rdr_hasMore) (by decide +kernel) hq hi
  cases hm
theorem cw_Rdr_hasMore : ab_cw y_Rdr_hasMore prog_8_method_3_code 1 0 (some .boolean) := ⟨ab_gW_in 643 (by decide +kernel) rfl, ab_gW_in 65 (by decide +kernel) rfl, by decide +kernel, by decide +kernel, by decide +kernel⟩
theorem is_Rdr_hasMore : Cond.instanceMethod y_Rdr_hasMore ∈ ab_gW := ab_gW_in 641 (by decide +kernel) rfl
theorem sl_Rdr_hasMore : Cond.selects "StreamTransport$Reader" y_Rdr_hasMore y_Rdr_hasMore ∈ ab_gW := ab_gW_in 642 (by decide +kernel) rfl
set_option maxRecDepth 100000 in
theorem cm_Rdr_hasMore (l : Launch) {av : List AV} {m : Mm} {r : Int32 × Mm} (h0 : c_Rdr_hasMore av m = some r) : ∃ (k q : Nat) (av' : List AV) (ci : Nat) (fs : List (Nat × Nat × Nat × Nat)) (z : vw_C), av = .inr (.inr (k, some q)) :: av' ∧ av'.length = 0 ∧ k ≠ 0 ∧ KT[k]? = some (.inl (ci, fs)) ∧ CL[ci]? = some z ∧ z.1 = "StreamTransport$Reader" ∧ ab_nos av' ∧ ab_Met l KT CL y_Rdr_hasMore (Cond.code y_Rdr_hasMore prog_8_method_3_code 1 (some .boolean) :: ab_gW) 0 0 none av m (some (.inl r.1)) r.2 := by
  obtain ⟨v0, hav, h⟩ := c_Rdr_hasMore_inv h0
  rw [r_Rdr_hasMore_eq] at h
  have hmo : ab_mo m r.2 := ab_kp_mo (kp_Rdr_hasMore h0)
  subst hav
  exact ⟨_, _, _, _, _, _, rfl, rfl, by decide, rfl, rfl, rfl, (by intro v hv q e; subst e; simp at hv), ab_met (by decide +kernel) KT_0 KT_nd KT_k3 E_Rdr_hasMore (cl_Rdr_hasMore l) hmo (Nat.le_of_ble_eq_true rfl) (ab_rI_inv h) (fun v hv => by cases hv; exact ⟨_, rfl⟩)⟩
/-! StreamTransport$Reader.nextByte()I -/
def y_Rdr_nextByte : MethodName := ⟨"StreamTransport$Reader", "nextByte", "()I"⟩
def t_Rdr_nextByte (pc : Nat) : Option Ent :=
  bif Nat.blt pc 29 then
    (bif Nat.blt pc 15 then
      (bif Nat.blt pc 7 then
        (bif Nat.blt pc 1 then
          (bif Nat.beq pc 0 then some (.aload_n 0, 0, 0, 0, 0) else none)
        else
          bif Nat.blt pc 4 then
            (bif Nat.beq pc 1 then some (.getfield 15, 6, 2, 1, 0) else none)
          else
            bif Nat.beq pc 4 then some (.ifnull 23, 27, 0, 0, 0) else none)
      else
        bif Nat.blt pc 11 then
          (bif Nat.blt pc 8 then
            (bif Nat.beq pc 7 then some (.aload_n 0, 0, 0, 0, 0) else none)
          else
            bif Nat.beq pc 8 then some (.getfield 19, 6, 4, 0, 0) else none)
        else
          bif Nat.blt pc 12 then
            (bif Nat.beq pc 11 then some (.aload_n 0, 0, 0, 0, 0) else none)
          else
            bif Nat.beq pc 12 then some (.getfield 28, 6, 5, 0, 0) else none)
    else
      bif Nat.blt pc 22 then
        (bif Nat.blt pc 18 then
          (bif Nat.beq pc 15 then some (.if_icmp .ge (12), 27, 0, 0, 0) else none)
        else
          bif Nat.blt pc 19 then
            (bif Nat.beq pc 18 then some (.aload_n 0, 0, 0, 0, 0) else none)
          else
            bif Nat.beq pc 19 then some (.getfield 19, 6, 4, 0, 0) else none)
      else
        bif Nat.blt pc 27 then
          (bif Nat.blt pc 24 then
            (bif Nat.beq pc 22 then some (.bipush 40, 0, 0, 0, 40) else none)
          else
            bif Nat.beq pc 24 then some (.if_icmp .lt (5), 29, 0, 0, 0) else none)
        else
          bif Nat.blt pc 28 then
            (bif Nat.beq pc 27 then some (.iconst (-1), 0, 0, 0, -1) else none)
          else
            bif Nat.beq pc 28 then some (.ireturn, 0, 0, 0, 0) else none)
  else
    bif Nat.blt pc 40 then
      (bif Nat.blt pc 34 then
        (bif Nat.blt pc 30 then
          (bif Nat.beq pc 29 then some (.aload_n 0, 0, 0, 0, 0) else none)
        else
          bif Nat.blt pc 31 then
            (bif Nat.beq pc 30 then some (.dup, 0, 0, 1, 0) else none)
          else
            bif Nat.beq pc 31 then some (.getfield 19, 6, 4, 0, 0) else none)
      else
        bif Nat.blt pc 36 then
          (bif Nat.blt pc 35 then
            (bif Nat.beq pc 34 then some (.iconst 1, 0, 0, 0, 1) else none)
          else
            bif Nat.beq pc 35 then some (.iadd, 0, 0, 0, 0) else none)
        else
          bif Nat.blt pc 39 then
            (bif Nat.beq pc 36 then some (.putfield 19, 6, 4, 0, 0) else none)
          else
            bif Nat.beq pc 39 then some (.aload_n 0, 0, 0, 0, 0) else none)
    else
      bif Nat.blt pc 50 then
        (bif Nat.blt pc 46 then
          (bif Nat.blt pc 43 then
            (bif Nat.beq pc 40 then some (.getfield 15, 6, 2, 1, 0) else none)
          else
            bif Nat.beq pc 43 then some (.getfield 55, 7, 0, 1, 0) else none)
        else
          bif Nat.blt pc 47 then
            (bif Nat.beq pc 46 then some (.aload_n 0, 0, 0, 0, 0) else none)
          else
            bif Nat.beq pc 47 then some (.getfield 19, 6, 4, 0, 0) else none)
      else
        bif Nat.blt pc 52 then
          (bif Nat.blt pc 51 then
            (bif Nat.beq pc 50 then some (.iconst 1, 0, 0, 0, 1) else none)
          else
            bif Nat.beq pc 51 then some (.isub, 0, 0, 0, 0) else none)
        else
          bif Nat.blt pc 53 then
            (bif Nat.beq pc 52 then some (.iaload, 0, 0, 0, 0) else none)
          else
            bif Nat.beq pc 53 then some (.ireturn, 0, 0, 0, 0) else none
def i_Rdr_nextByte : Nat → Option Ent := ab_tab 54 t_Rdr_nextByte
def h_Rdr_nextByte (pc : Nat) : Nat × List Bool := (0, [])
def s_Rdr_nextByte (pc : Nat) : List (Int32 × Nat) × Nat := ([], 0)
noncomputable def eV_Rdr_nextByte : Nat → List AV → Mm → Option Mm := ab_ev []
noncomputable def eI_Rdr_nextByte : Nat → List AV → Mm → Option (Int32 × Mm) := ab_ev []
noncomputable def b_Rdr_nextByte_0 (f : Nat) (v0 : Nat) (m : Mm) : Option Rs := ab_ex KT none s_Rdr_nextByte eV_Rdr_nextByte eI_Rdr_nextByte i_Rdr_nextByte h_Rdr_nextByte f 0 [some (.inr (.inr (10, some v0)))] [] m
set_option maxRecDepth 100000 in
set_option maxHeartbeats 4000000 in
theorem b_Rdr_nextByte_0_eq (f : Nat) (v0 : Nat) (m : Mm) : b_Rdr_nextByte_0 (f + 1) v0 m =
    Option.elim (m.2.2.1 34 v0 0)
      (some (.inl (some (.inl (-1 : Int32)), m)))
      (fun _ => if (m.1 37 v0 0) ≤ (m.1 36 v0 0) then
        some (.inl (some (.inl (-1 : Int32)), m))
      else
        if (m.1 36 v0 0) < (40 : Int32) then
          ab_let (ab_uI m 36 v0 0 ((m.1 36 v0 0) + (1 : Int32))) fun m1 =>
          (m1.2.2.1 34 v0 0).bind fun q2 =>
            (ab_ix ((m1.1 36 v0 0) - (1 : Int32)) 40).bind fun i3 =>
          some (.inl (some (.inl (m1.1 13 (q2 + 1) i3)), m1))
        else
          some (.inl (some (.inl (-1 : Int32)), m))) := rfl
noncomputable def r_Rdr_nextByte : Nat → Mm → Option (Int32 × Mm) := ab_seal fun v0 m => ab_rI (b_Rdr_nextByte_0 50000 v0 m)
theorem r_Rdr_nextByte_eq (v0 : Nat) (m : Mm) : r_Rdr_nextByte v0 m = ab_rI (b_Rdr_nextByte_0 50000 v0 m) := by
  unfold r_Rdr_nextByte
  rw [ab_seal_eq]
noncomputable def c_Rdr_nextByte : List AV → Mm → Option (Int32 × Mm) := fun av m => match av with
  | [.inr (.inr (kv0, ov0))] => if kv0 = 10 then (ov0.bind fun v0 => r_Rdr_nextByte v0 m) else none
  | _ => none
theorem c_Rdr_nextByte_inv {av : List AV} {m : Mm} {r : Int32 × Mm} (h : c_Rdr_nextByte av m = some r) : ∃ (v0 : Nat), av = [.inr (.inr (10, some v0))] ∧ r_Rdr_nextByte v0 m = some r := by
  unfold c_Rdr_nextByte at h
  split at h
  · rename_i kv0 ov0
    by_cases hkv0 : kv0 = 10
    case neg => rw [if_neg hkv0] at h; cases h
    rw [if_pos hkv0] at h
    subst hkv0
    obtain ⟨v0, hev0, h⟩ := Option.bind_eq_some_iff.mp h
    subst hev0
    exact ⟨v0, rfl, h⟩
  · cases h
def cs_Rdr_nextByte : List Nat := []
set_option maxRecDepth 100000 in
theorem E_Rdr_nextByte : ∀ (pc : Nat) (q : Ent), i_Rdr_nextByte pc = some q → ab_E KT CL ab_gW "StreamTransport$Reader" "nextByte" (some .int) prog_8_method_9_code s_Rdr_nextByte 1 pc q.1 q.2.1 q.2.2.1 q.2.2.2.1 q.2.2.2.2 := fun pc q hq =>
  ab_Eb_ok lc_Rdr lj_Rdr fl_Rdr (fpn_Rdr "nextByte") nw_Rdr na_Rdr nq_Rdr (ab_tab_all (t := t_Rdr_nextByte) (chk := fun pc q => ab_Eb (some .int) prog_8_method_9_code s_Rdr_nextByte 1 LC_Rdr LJ_Rdr FL_Rdr FPn_Rdr NW_Rdr NA_Rdr NQ_Rdr pc q.1 q.2.1 q.2.2.1 q.2.2.2.1 q.2.2.2.2) (by decide +kernel) hq)
set_option maxRecDepth 100000 in
theorem kp_Rdr_nextByte {av : List AV} {m : Mm} {r : Int32 × Mm} (h : c_Rdr_nextByte av m = some r) : ab_kp m r.2 := by
  obtain ⟨v0, -, h⟩ := c_Rdr_nextByte_inv h
  rw [r_Rdr_nextByte_eq] at h
  have hV : ∀ a av m m', eV_Rdr_nextByte a av m = some m' → ab_kp m m' := ab_ev_all (P := fun _ m r => ab_kp m r) [] (fun q hq => by cases hq)
  have hI : ∀ a av m q, eI_Rdr_nextByte a av m = some q → ab_kp m q.2 := ab_ev_all (P := fun _ (m : Mm) (r : Int32 × Mm) => ab_kp m r.2) [] (fun q hq => by cases hq)
  exact ab_kprel (ρ := .inl (some (.inl r.1), r.2)) (ab_tab_isn (t := t_Rdr_nextByte) (by decide +kernel)) hV hI (ab_rI_inv h)
set_option maxRecDepth 100000 in
theorem cl_Rdr_nextByte (l : Launch) : ∀ (pc : Nat) (q : Ent), i_Rdr_nextByte pc = some q → ab_inv q.1 = true → ab_CR l KT CL none ab_gW "StreamTransport$Reader" prog_8_method_9_code 1 0 0 eV_Rdr_nextByte eI_Rdr_nextByte pc q := by
  intro pc q hq hi
  have hm : pc ∈ cs_Rdr_nextByte := ab_tab_cs (t := t_Rdr_nextByte) (by decide +kernel) hq hi
  cases hm
theorem cw_Rdr_nextByte : ab_cw y_Rdr_nextByte prog_8_method_9_code 1 0 (some .int) := ⟨ab_gW_in 651 (by decide +kernel) rfl, ab_gW_in 65 (by decide +kernel) rfl, by decide +kernel, by decide +kernel, by decide +kernel⟩
theorem is_Rdr_nextByte : Cond.instanceMethod y_Rdr_nextByte ∈ ab_gW := ab_gW_in 650 (by decide +kernel) rfl
theorem sl_Rdr_nextByte : Cond.selects "StreamTransport$Reader" y_Rdr_nextByte y_Rdr_nextByte ∈ ab_gW := ab_gW_in 13 (by decide +kernel) rfl
set_option maxRecDepth 100000 in
theorem cm_Rdr_nextByte (l : Launch) {av : List AV} {m : Mm} {r : Int32 × Mm} (h0 : c_Rdr_nextByte av m = some r) : ∃ (k q : Nat) (av' : List AV) (ci : Nat) (fs : List (Nat × Nat × Nat × Nat)) (z : vw_C), av = .inr (.inr (k, some q)) :: av' ∧ av'.length = 0 ∧ k ≠ 0 ∧ KT[k]? = some (.inl (ci, fs)) ∧ CL[ci]? = some z ∧ z.1 = "StreamTransport$Reader" ∧ ab_nos av' ∧ ab_Met l KT CL y_Rdr_nextByte (Cond.code y_Rdr_nextByte prog_8_method_9_code 1 (some .int) :: ab_gW) 0 0 none av m (some (.inl r.1)) r.2 := by
  obtain ⟨v0, hav, h⟩ := c_Rdr_nextByte_inv h0
  rw [r_Rdr_nextByte_eq] at h
  have hmo : ab_mo m r.2 := ab_kp_mo (kp_Rdr_nextByte h0)
  subst hav
  exact ⟨_, _, _, _, _, _, rfl, rfl, by decide, rfl, rfl, rfl, (by intro v hv q e; subst e; simp at hv), ab_met (by decide +kernel) KT_0 KT_nd KT_k3 E_Rdr_nextByte (cl_Rdr_nextByte l) hmo (Nat.le_of_ble_eq_true rfl) (ab_rI_inv h) (fun v hv => by cases hv; exact ⟨_, rfl⟩)⟩
/-! StreamTransport$Reader.nextNumber()I -/
def y_Rdr_nextNumber : MethodName := ⟨"StreamTransport$Reader", "nextNumber", "()I"⟩
def t_Rdr_nextNumber (pc : Nat) : Option Ent :=
  bif Nat.blt pc 41 then
    (bif Nat.blt pc 21 then
      (bif Nat.blt pc 11 then
        (bif Nat.blt pc 5 then
          (bif Nat.blt pc 1 then
            (bif Nat.beq pc 0 then some (.aload_n 0, 0, 0, 0, 0) else none)
          else
            bif Nat.blt pc 4 then
              (bif Nat.beq pc 1 then some (.invokevirtual 31, 23, 1, 1, 0) else none)
            else
              bif Nat.beq pc 4 then some (.istore_n 1, 1, 0, 0, 0) else none)
        else
          bif Nat.blt pc 6 then
            (bif Nat.beq pc 5 then some (.iload_n 1, 1, 0, 0, 0) else none)
          else
            bif Nat.blt pc 8 then
              (bif Nat.beq pc 6 then some (.bipush 64, 0, 0, 0, 64) else none)
            else
              bif Nat.beq pc 8 then some (.if_icmp .ge (5), 13, 0, 0, 0) else none)
      else
        bif Nat.blt pc 14 then
          (bif Nat.blt pc 12 then
            (bif Nat.beq pc 11 then some (.iload_n 1, 1, 0, 0, 0) else none)
          else
            bif Nat.blt pc 13 then
              (bif Nat.beq pc 12 then some (.ireturn, 0, 0, 0, 0) else none)
            else
              bif Nat.beq pc 13 then some (.iload_n 1, 1, 0, 0, 0) else none)
        else
          bif Nat.blt pc 17 then
            (bif Nat.beq pc 14 then some (.sipush 192, 0, 0, 0, 192) else none)
          else
            bif Nat.blt pc 20 then
              (bif Nat.beq pc 17 then some (.if_icmp .lt (5), 22, 0, 0, 0) else none)
            else
              bif Nat.beq pc 20 then some (.iconst (-1), 0, 0, 0, -1) else none)
    else
      bif Nat.blt pc 33 then
        (bif Nat.blt pc 26 then
          (bif Nat.blt pc 22 then
            (bif Nat.beq pc 21 then some (.ireturn, 0, 0, 0, 0) else none)
          else
            bif Nat.blt pc 23 then
              (bif Nat.beq pc 22 then some (.iload_n 1, 1, 0, 0, 0) else none)
            else
              bif Nat.beq pc 23 then some (.sipush 128, 0, 0, 0, 128) else none)
        else
          bif Nat.blt pc 29 then
            (bif Nat.beq pc 26 then some (.if_icmp .ge (7), 33, 0, 0, 0) else none)
          else
            bif Nat.blt pc 30 then
              (bif Nat.beq pc 29 then some (.iconst 1, 0, 0, 0, 1) else none)
            else
              bif Nat.beq pc 30 then some (.goto 4, 34, 0, 0, 0) else none)
      else
        bif Nat.blt pc 36 then
          (bif Nat.blt pc 34 then
            (bif Nat.beq pc 33 then some (.iconst 3, 0, 0, 0, 3) else none)
          else
            bif Nat.blt pc 35 then
              (bif Nat.beq pc 34 then some (.istore_n 2, 2, 0, 0, 0) else none)
            else
              bif Nat.beq pc 35 then some (.iload_n 2, 2, 0, 0, 0) else none)
        else
          bif Nat.blt pc 37 then
            (bif Nat.beq pc 36 then some (.aload_n 0, 0, 0, 0, 0) else none)
          else
            bif Nat.blt pc 40 then
              (bif Nat.beq pc 37 then some (.getfield 28, 6, 5, 0, 0) else none)
            else
              bif Nat.beq pc 40 then some (.aload_n 0, 0, 0, 0, 0) else none)
  else
    bif Nat.blt pc 60 then
      (bif Nat.blt pc 51 then
        (bif Nat.blt pc 48 then
          (bif Nat.blt pc 44 then
            (bif Nat.beq pc 41 then some (.getfield 19, 6, 4, 0, 0) else none)
          else
            bif Nat.blt pc 45 then
              (bif Nat.beq pc 44 then some (.isub, 0, 0, 0, 0) else none)
            else
              bif Nat.beq pc 45 then some (.if_icmp .le (5), 50, 0, 0, 0) else none)
        else
          bif Nat.blt pc 49 then
            (bif Nat.beq pc 48 then some (.iconst (-1), 0, 0, 0, -1) else none)
          else
            bif Nat.blt pc 50 then
              (bif Nat.beq pc 49 then some (.ireturn, 0, 0, 0, 0) else none)
            else
              bif Nat.beq pc 50 then some (.iload_n 1, 1, 0, 0, 0) else none)
      else
        bif Nat.blt pc 55 then
          (bif Nat.blt pc 53 then
            (bif Nat.beq pc 51 then some (.bipush 63, 0, 0, 0, 63) else none)
          else
            bif Nat.blt pc 54 then
              (bif Nat.beq pc 53 then some (.iand, 0, 0, 0, 0) else none)
            else
              bif Nat.beq pc 54 then some (.istore_n 3, 3, 0, 0, 0) else none)
        else
          bif Nat.blt pc 56 then
            (bif Nat.beq pc 55 then some (.iconst 0, 0, 0, 0, 0) else none)
          else
            bif Nat.blt pc 58 then
              (bif Nat.beq pc 56 then some (.istore 4, 4, 0, 0, 0) else none)
            else
              bif Nat.beq pc 58 then some (.iload 4, 4, 0, 0, 0) else none)
    else
      bif Nat.blt pc 70 then
        (bif Nat.blt pc 65 then
          (bif Nat.blt pc 61 then
            (bif Nat.beq pc 60 then some (.iload_n 2, 2, 0, 0, 0) else none)
          else
            bif Nat.blt pc 64 then
              (bif Nat.beq pc 61 then some (.if_icmp .ge (20), 81, 0, 0, 0) else none)
            else
              bif Nat.beq pc 64 then some (.iload_n 3, 3, 0, 0, 0) else none)
        else
          bif Nat.blt pc 68 then
            (bif Nat.beq pc 65 then some (.sipush 256, 0, 0, 0, 256) else none)
          else
            bif Nat.blt pc 69 then
              (bif Nat.beq pc 68 then some (.imul, 0, 0, 0, 0) else none)
            else
              bif Nat.beq pc 69 then some (.aload_n 0, 0, 0, 0, 0) else none)
      else
        bif Nat.blt pc 75 then
          (bif Nat.blt pc 73 then
            (bif Nat.beq pc 70 then some (.invokevirtual 31, 23, 1, 1, 0) else none)
          else
            bif Nat.blt pc 74 then
              (bif Nat.beq pc 73 then some (.iadd, 0, 0, 0, 0) else none)
            else
              bif Nat.beq pc 74 then some (.istore_n 3, 3, 0, 0, 0) else none)
        else
          bif Nat.blt pc 81 then
            (bif Nat.blt pc 78 then
              (bif Nat.beq pc 75 then some (.iinc 4 1, 4, 0, 0, 1) else none)
            else
              bif Nat.beq pc 78 then some (.goto (-20), 58, 0, 0, 0) else none)
          else
            bif Nat.blt pc 82 then
              (bif Nat.beq pc 81 then some (.iload_n 3, 3, 0, 0, 0) else none)
            else
              bif Nat.beq pc 82 then some (.ireturn, 0, 0, 0, 0) else none
def i_Rdr_nextNumber : Nat → Option Ent := ab_tab 83 t_Rdr_nextNumber
def h_Rdr_nextNumber (pc : Nat) : Nat × List Bool := bif Nat.beq pc 34 then (1, [true, true, false, false, false]) else bif Nat.beq pc 58 then (1, [true, false, true, true, true]) else (0, [])
def s_Rdr_nextNumber (pc : Nat) : List (Int32 × Nat) × Nat := ([], 0)
noncomputable def eV_Rdr_nextNumber : Nat → List AV → Mm → Option Mm := ab_ev []
noncomputable def eI_Rdr_nextNumber : Nat → List AV → Mm → Option (Int32 × Mm) := ab_ev [(23, c_Rdr_nextByte)]
noncomputable def b_Rdr_nextNumber_0 (f : Nat) (v0 : Nat) (m : Mm) : Option Rs := ab_ex KT none s_Rdr_nextNumber eV_Rdr_nextNumber eI_Rdr_nextNumber i_Rdr_nextNumber h_Rdr_nextNumber f 0 [some (.inr (.inr (10, some v0))), none, none, none, none] [] m
noncomputable def b_Rdr_nextNumber_34 (f : Nat) (v0 : Nat) (v1 : Int32) (u0 : Int32) (m : Mm) : Option Rs := ab_ex KT none s_Rdr_nextNumber eV_Rdr_nextNumber eI_Rdr_nextNumber i_Rdr_nextNumber h_Rdr_nextNumber f 34 [some (.inr (.inr (10, some v0))), some (.inl v1), none, none, none] [.inl u0] m
noncomputable def b_Rdr_nextNumber_58 (f : Nat) (v0 : Nat) (v2 : Int32) (v3 : Int32) (v4 : Int32) (m : Mm) : Option Rs := ab_ex KT none s_Rdr_nextNumber eV_Rdr_nextNumber eI_Rdr_nextNumber i_Rdr_nextNumber h_Rdr_nextNumber f 58 [some (.inr (.inr (10, some v0))), none, some (.inl v2), some (.inl v3), some (.inl v4)] [] m
set_option maxRecDepth 100000 in
set_option maxHeartbeats 4000000 in
theorem b_Rdr_nextNumber_0_eq (f : Nat) (v0 : Nat) (m : Mm) : b_Rdr_nextNumber_0 (f + 1) v0 m =
    (r_Rdr_nextByte v0 m).bind fun z1 =>
    if (64 : Int32) ≤ z1.1 then
      if z1.1 < (192 : Int32) then
        if (128 : Int32) ≤ z1.1 then
          b_Rdr_nextNumber_34 f v0 z1.1 (3 : Int32) z1.2
        else
          b_Rdr_nextNumber_34 f v0 z1.1 (1 : Int32) z1.2
      else
        some (.inl (some (.inl (-1 : Int32)), z1.2))
    else
      some (.inl (some (.inl z1.1), z1.2)) := rfl
set_option maxRecDepth 100000 in
set_option maxHeartbeats 4000000 in
theorem b_Rdr_nextNumber_34_eq (f : Nat) (v0 : Nat) (v1 : Int32) (u0 : Int32) (m : Mm) : b_Rdr_nextNumber_34 (f + 1) v0 v1 u0 m =
    if u0 ≤ ((m.1 37 v0 0) - (m.1 36 v0 0)) then
      ab_let ((v1 &&& (63 : Int32))) fun x1 =>
      b_Rdr_nextNumber_58 f v0 u0 x1 (0 : Int32) m
    else
      some (.inl (some (.inl (-1 : Int32)), m)) := rfl
set_option maxRecDepth 100000 in
set_option maxHeartbeats 4000000 in
theorem b_Rdr_nextNumber_58_eq (f : Nat) (v0 : Nat) (v2 : Int32) (v3 : Int32) (v4 : Int32) (m : Mm) : b_Rdr_nextNumber_58 (f + 1) v0 v2 v3 v4 m =
    if v2 ≤ v4 then
      some (.inl (some (.inl v3), m))
    else
      (r_Rdr_nextByte v0 m).bind fun z1 =>
      ab_let (((v3 * (256 : Int32)) + z1.1)) fun x2 =>
      ab_let (v4 + (1 : Int32)) fun x3 =>
      b_Rdr_nextNumber_58 f v0 v2 x2 x3 z1.2 := rfl
noncomputable def r_Rdr_nextNumber : Nat → Mm → Option (Int32 × Mm) := ab_seal fun v0 m => ab_rI (b_Rdr_nextNumber_0 50000 v0 m)
theorem r_Rdr_nextNumber_eq (v0 : Nat) (m : Mm) : r_Rdr_nextNumber v0 m = ab_rI (b_Rdr_nextNumber_0 50000 v0 m) := by
  unfold r_Rdr_nextNumber
  rw [ab_seal_eq]
noncomputable def c_Rdr_nextNumber : List AV → Mm → Option (Int32 × Mm) := fun av m => match av with
  | [.inr (.inr (kv0, ov0))] => if kv0 = 10 then (ov0.bind fun v0 => r_Rdr_nextNumber v0 m) else none
  | _ => none
theorem c_Rdr_nextNumber_inv {av : List AV} {m : Mm} {r : Int32 × Mm} (h : c_Rdr_nextNumber av m = some r) : ∃ (v0 : Nat), av = [.inr (.inr (10, some v0))] ∧ r_Rdr_nextNumber v0 m = some r := by
  unfold c_Rdr_nextNumber at h
  split at h
  · rename_i kv0 ov0
    by_cases hkv0 : kv0 = 10
    case neg => rw [if_neg hkv0] at h; cases h
    rw [if_pos hkv0] at h
    subst hkv0
    obtain ⟨v0, hev0, h⟩ := Option.bind_eq_some_iff.mp h
    subst hev0
    exact ⟨v0, rfl, h⟩
  · cases h
def cs_Rdr_nextNumber : List Nat := [1, 70]
set_option maxRecDepth 100000 in
theorem E_Rdr_nextNumber : ∀ (pc : Nat) (q : Ent), i_Rdr_nextNumber pc = some q → ab_E KT CL ab_gW "StreamTransport$Reader" "nextNumber" (some .int) prog_8_method_8_code s_Rdr_nextNumber 5 pc q.1 q.2.1 q.2.2.1 q.2.2.2.1 q.2.2.2.2 := fun pc q hq =>
  ab_Eb_ok lc_Rdr lj_Rdr fl_Rdr (fpn_Rdr "nextNumber") nw_Rdr na_Rdr nq_Rdr (ab_tab_all (t := t_Rdr_nextNumber) (chk := fun pc q => ab_Eb (some .int) prog_8_method_8_code s_Rdr_nextNumber 5 LC_Rdr LJ_Rdr FL_Rdr FPn_Rdr NW_Rdr NA_Rdr NQ_Rdr pc q.1 q.2.1 q.2.2.1 q.2.2.2.1 q.2.2.2.2) (by decide +kernel) hq)
set_option maxRecDepth 100000 in
theorem kp_Rdr_nextNumber {av : List AV} {m : Mm} {r : Int32 × Mm} (h : c_Rdr_nextNumber av m = some r) : ab_kp m r.2 := by
  obtain ⟨v0, -, h⟩ := c_Rdr_nextNumber_inv h
  rw [r_Rdr_nextNumber_eq] at h
  have hV : ∀ a av m m', eV_Rdr_nextNumber a av m = some m' → ab_kp m m' := ab_ev_all (P := fun _ m r => ab_kp m r) [] (fun q hq => by cases hq)
  have hI : ∀ a av m q, eI_Rdr_nextNumber a av m = some q → ab_kp m q.2 := ab_ev_all (P := fun _ (m : Mm) (r : Int32 × Mm) => ab_kp m r.2) [(23, c_Rdr_nextByte)] (List.forall_mem_cons.mpr ⟨fun av m r h => kp_Rdr_nextByte h, fun q hq => by cases hq⟩)
  exact ab_kprel (ρ := .inl (some (.inl r.1), r.2)) (ab_tab_isn (t := t_Rdr_nextNumber) (by decide +kernel)) hV hI (ab_rI_inv h)
set_option maxRecDepth 100000 in
theorem cl_Rdr_nextNumber (l : Launch) : ∀ (pc : Nat) (q : Ent), i_Rdr_nextNumber pc = some q → ab_inv q.1 = true → ab_CR l KT CL none ab_gW "StreamTransport$Reader" prog_8_method_8_code 5 1 20 eV_Rdr_nextNumber eI_Rdr_nextNumber pc q := by
  intro pc q hq hi
  have hm : pc ∈ cs_Rdr_nextNumber := ab_tab_cs (t := t_Rdr_nextNumber) (by decide +kernel) hq hi
  simp only [cs_Rdr_nextNumber, List.mem_cons, List.not_mem_nil, or_false] at hm
  rcases hm with rfl | rfl
  · cases (Option.some.inj hq : ((.invokevirtual 31, 23, 1, 1, 0) : Ent) = q)
    exact ab_crV (C := "StreamTransport$Reader") (by decide +kernel) cw_Rdr_nextByte (ab_gW_in 648 (by decide +kernel) rfl) is_Rdr_nextByte sl_Rdr_nextByte (by decide) (fun av m m' h => by cases h) (fun av m r h => cm_Rdr_nextByte l h) KT_nd
  · cases (Option.some.inj hq : ((.invokevirtual 31, 23, 1, 1, 0) : Ent) = q)
    exact ab_crV (C := "StreamTransport$Reader") (by decide +kernel) cw_Rdr_nextByte (ab_gW_in 648 (by decide +kernel) rfl) is_Rdr_nextByte sl_Rdr_nextByte (by decide) (fun av m m' h => by cases h) (fun av m r h => cm_Rdr_nextByte l h) KT_nd
theorem cw_Rdr_nextNumber : ab_cw y_Rdr_nextNumber prog_8_method_8_code 5 0 (some .int) := ⟨ab_gW_in 663 (by decide +kernel) rfl, ab_gW_in 65 (by decide +kernel) rfl, by decide +kernel, by decide +kernel, by decide +kernel⟩
theorem is_Rdr_nextNumber : Cond.instanceMethod y_Rdr_nextNumber ∈ ab_gW := ab_gW_in 662 (by decide +kernel) rfl
theorem sl_Rdr_nextNumber : Cond.selects "StreamTransport$Reader" y_Rdr_nextNumber y_Rdr_nextNumber ∈ ab_gW := ab_gW_in 16 (by decide +kernel) rfl
set_option maxRecDepth 100000 in
theorem cm_Rdr_nextNumber (l : Launch) {av : List AV} {m : Mm} {r : Int32 × Mm} (h0 : c_Rdr_nextNumber av m = some r) : ∃ (k q : Nat) (av' : List AV) (ci : Nat) (fs : List (Nat × Nat × Nat × Nat)) (z : vw_C), av = .inr (.inr (k, some q)) :: av' ∧ av'.length = 0 ∧ k ≠ 0 ∧ KT[k]? = some (.inl (ci, fs)) ∧ CL[ci]? = some z ∧ z.1 = "StreamTransport$Reader" ∧ ab_nos av' ∧ ab_Met l KT CL y_Rdr_nextNumber (Cond.code y_Rdr_nextNumber prog_8_method_8_code 5 (some .int) :: ab_gW) 1 20 none av m (some (.inl r.1)) r.2 := by
  obtain ⟨v0, hav, h⟩ := c_Rdr_nextNumber_inv h0
  rw [r_Rdr_nextNumber_eq] at h
  have hmo : ab_mo m r.2 := ab_kp_mo (kp_Rdr_nextNumber h0)
  subst hav
  exact ⟨_, _, _, _, _, _, rfl, rfl, by decide, rfl, rfl, rfl, (by intro v hv q e; subst e; simp at hv), ab_met (by decide +kernel) KT_0 KT_nd KT_k3 E_Rdr_nextNumber (cl_Rdr_nextNumber l) hmo (Nat.le_of_ble_eq_true rfl) (ab_rI_inv h) (fun v hv => by cases hv; exact ⟨_, rfl⟩)⟩
/-! StreamTransport$Reader.stepNumbers(II)Z -/
def y_Rdr_stepNumbers : MethodName := ⟨"StreamTransport$Reader", "stepNumbers", "(II)Z"⟩
def t_Rdr_stepNumbers (pc : Nat) : Option Ent :=
  bif Nat.blt pc 21 then
    (bif Nat.blt pc 9 then
      (bif Nat.blt pc 3 then
        (bif Nat.blt pc 1 then
          (bif Nat.beq pc 0 then some (.iload_n 1, 1, 0, 0, 0) else none)
        else
          bif Nat.blt pc 2 then
            (bif Nat.beq pc 1 then some (.istore_n 3, 3, 0, 0, 0) else none)
          else
            bif Nat.beq pc 2 then some (.iload_n 3, 3, 0, 0, 0) else none)
      else
        bif Nat.blt pc 5 then
          (bif Nat.blt pc 4 then
            (bif Nat.beq pc 3 then some (.iload_n 1, 1, 0, 0, 0) else none)
          else
            bif Nat.beq pc 4 then some (.iload_n 2, 2, 0, 0, 0) else none)
        else
          bif Nat.blt pc 6 then
            (bif Nat.beq pc 5 then some (.iadd, 0, 0, 0, 0) else none)
          else
            bif Nat.beq pc 6 then some (.if_icmp .ge (37), 43, 0, 0, 0) else none)
    else
      bif Nat.blt pc 15 then
        (bif Nat.blt pc 10 then
          (bif Nat.beq pc 9 then some (.iload_n 3, 3, 0, 0, 0) else none)
        else
          bif Nat.blt pc 12 then
            (bif Nat.beq pc 10 then some (.bipush 7, 0, 0, 0, 7) else none)
          else
            bif Nat.beq pc 12 then some (.if_icmp .ge (31), 43, 0, 0, 0) else none)
      else
        bif Nat.blt pc 19 then
          (bif Nat.blt pc 16 then
            (bif Nat.beq pc 15 then some (.aload_n 0, 0, 0, 0, 0) else none)
          else
            bif Nat.beq pc 16 then some (.getfield 9, 6, 0, 1, 0) else none)
        else
          bif Nat.blt pc 20 then
            (bif Nat.beq pc 19 then some (.iload_n 3, 3, 0, 0, 0) else none)
          else
            bif Nat.beq pc 20 then some (.aload_n 0, 0, 0, 0, 0) else none)
  else
    bif Nat.blt pc 32 then
      (bif Nat.blt pc 26 then
        (bif Nat.blt pc 24 then
          (bif Nat.beq pc 21 then some (.invokevirtual 52, 24, 1, 1, 0) else none)
        else
          bif Nat.blt pc 25 then
            (bif Nat.beq pc 24 then some (.iastore, 0, 0, 0, 0) else none)
          else
            bif Nat.beq pc 25 then some (.aload_n 0, 0, 0, 0, 0) else none)
      else
        bif Nat.blt pc 30 then
          (bif Nat.blt pc 29 then
            (bif Nat.beq pc 26 then some (.getfield 9, 6, 0, 1, 0) else none)
          else
            bif Nat.beq pc 29 then some (.iload_n 3, 3, 0, 0, 0) else none)
        else
          bif Nat.blt pc 31 then
            (bif Nat.beq pc 30 then some (.iaload, 0, 0, 0, 0) else none)
          else
            bif Nat.beq pc 31 then some (.iconst (-1), 0, 0, 0, -1) else none)
    else
      bif Nat.blt pc 37 then
        (bif Nat.blt pc 35 then
          (bif Nat.beq pc 32 then some (.if_icmp .ne (5), 37, 0, 0, 0) else none)
        else
          bif Nat.blt pc 36 then
            (bif Nat.beq pc 35 then some (.iconst 0, 0, 0, 0, 0) else none)
          else
            bif Nat.beq pc 36 then some (.ireturn, 0, 0, 1, 0) else none)
      else
        bif Nat.blt pc 43 then
          (bif Nat.blt pc 40 then
            (bif Nat.beq pc 37 then some (.iinc 3 1, 3, 0, 0, 1) else none)
          else
            bif Nat.beq pc 40 then some (.goto (-38), 2, 0, 0, 0) else none)
        else
          bif Nat.blt pc 44 then
            (bif Nat.beq pc 43 then some (.iconst 1, 0, 0, 0, 1) else none)
          else
            bif Nat.beq pc 44 then some (.ireturn, 0, 0, 1, 0) else none
def i_Rdr_stepNumbers : Nat → Option Ent := ab_tab 45 t_Rdr_stepNumbers
def h_Rdr_stepNumbers (pc : Nat) : Nat × List Bool := bif Nat.beq pc 2 then (1, [true, true, true, true]) else (0, [])
def s_Rdr_stepNumbers (pc : Nat) : List (Int32 × Nat) × Nat := ([], 0)
noncomputable def eV_Rdr_stepNumbers : Nat → List AV → Mm → Option Mm := ab_ev []
noncomputable def eI_Rdr_stepNumbers : Nat → List AV → Mm → Option (Int32 × Mm) := ab_ev [(24, c_Rdr_nextNumber)]
noncomputable def b_Rdr_stepNumbers_0 (f : Nat) (v0 : Nat) (v1 : Int32) (v2 : Int32) (m : Mm) : Option Rs := ab_ex KT none s_Rdr_stepNumbers eV_Rdr_stepNumbers eI_Rdr_stepNumbers i_Rdr_stepNumbers h_Rdr_stepNumbers f 0 [some (.inr (.inr (10, some v0))), some (.inl v1), some (.inl v2), none] [] m
noncomputable def b_Rdr_stepNumbers_2 (f : Nat) (v0 : Nat) (v1 : Int32) (v2 : Int32) (v3 : Int32) (m : Mm) : Option Rs := ab_ex KT none s_Rdr_stepNumbers eV_Rdr_stepNumbers eI_Rdr_stepNumbers i_Rdr_stepNumbers h_Rdr_stepNumbers f 2 [some (.inr (.inr (10, some v0))), some (.inl v1), some (.inl v2), some (.inl v3)] [] m
set_option maxRecDepth 100000 in
set_option maxHeartbeats 4000000 in
theorem b_Rdr_stepNumbers_0_eq (f : Nat) (v0 : Nat) (v1 : Int32) (v2 : Int32) (m : Mm) : b_Rdr_stepNumbers_0 (f + 1) v0 v1 v2 m =
    b_Rdr_stepNumbers_2 f v0 v1 v2 v1 m := rfl
set_option maxRecDepth 100000 in
set_option maxHeartbeats 4000000 in
theorem b_Rdr_stepNumbers_2_eq (f : Nat) (v0 : Nat) (v1 : Int32) (v2 : Int32) (v3 : Int32) (m : Mm) : b_Rdr_stepNumbers_2 (f + 1) v0 v1 v2 v3 m =
    if (v1 + v2) ≤ v3 then
      (ab_bo (1 : Int32)).bind fun y1 => some (.inl (some (.inl y1), m))
    else
      if (7 : Int32) ≤ v3 then
        (ab_bo (1 : Int32)).bind fun y2 => some (.inl (some (.inl y2), m))
      else
        (r_Rdr_nextNumber v0 m).bind fun z3 =>
        (ab_ix v3 7).bind fun i4 =>
        ab_let (ab_uI z3.2 38 (v0 + 1) i4 z3.1) fun m5 =>
        (ab_ix v3 7).bind fun i6 =>
        if (m5.1 38 (v0 + 1) i6) = (-1 : Int32) then
          (ab_bo (0 : Int32)).bind fun y8 => some (.inl (some (.inl y8), m5))
        else
          ab_let (v3 + (1 : Int32)) fun x7 =>
          b_Rdr_stepNumbers_2 f v0 v1 v2 x7 m5 := rfl
noncomputable def r_Rdr_stepNumbers : Nat → Int32 → Int32 → Mm → Option (Int32 × Mm) := ab_seal fun v0 v1 v2 m => ab_rI (b_Rdr_stepNumbers_0 50000 v0 v1 v2 m)
theorem r_Rdr_stepNumbers_eq (v0 : Nat) (v1 : Int32) (v2 : Int32) (m : Mm) : r_Rdr_stepNumbers v0 v1 v2 m = ab_rI (b_Rdr_stepNumbers_0 50000 v0 v1 v2 m) := by
  unfold r_Rdr_stepNumbers
  rw [ab_seal_eq]
noncomputable def c_Rdr_stepNumbers : List AV → Mm → Option (Int32 × Mm) := fun av m => match av with
  | [.inr (.inr (kv0, ov0)), .inl v1, .inl v2] => if kv0 = 10 then (ov0.bind fun v0 => r_Rdr_stepNumbers v0 v1 v2 m) else none
  | _ => none
theorem c_Rdr_stepNumbers_inv {av : List AV} {m : Mm} {r : Int32 × Mm} (h : c_Rdr_stepNumbers av m = some r) : ∃ (v0 : Nat) (v1 : Int32) (v2 : Int32), av = [.inr (.inr (10, some v0)), .inl v1, .inl v2] ∧ r_Rdr_stepNumbers v0 v1 v2 m = some r := by
  unfold c_Rdr_stepNumbers at h
  split at h
  · rename_i kv0 ov0 v1 v2
    by_cases hkv0 : kv0 = 10
    case neg => rw [if_neg hkv0] at h; cases h
    rw [if_pos hkv0] at h
    subst hkv0
    obtain ⟨v0, hev0, h⟩ := Option.bind_eq_some_iff.mp h
    subst hev0
    exact ⟨v0, v1, v2, rfl, h⟩
  · cases h
def cs_Rdr_stepNumbers : List Nat := [21]
set_option maxRecDepth 100000 in
theorem E_Rdr_stepNumbers : ∀ (pc : Nat) (q : Ent), i_Rdr_stepNumbers pc = some q → ab_E KT CL ab_gW "StreamTransport$Reader" "stepNumbers" (some .boolean) prog_8_method_7_code s_Rdr_stepNumbers 4 pc q.1 q.2.1 q.2.2.1 q.2.2.2.1 q.2.2.2.2 := fun pc q hq =>
  ab_Eb_ok lc_Rdr lj_Rdr fl_Rdr (fpn_Rdr "stepNumbers") nw_Rdr na_Rdr nq_Rdr (ab_tab_all (t := t_Rdr_stepNumbers) (chk := fun pc q => ab_Eb (some .boolean) prog_8_method_7_code s_Rdr_stepNumbers 4 LC_Rdr LJ_Rdr FL_Rdr FPn_Rdr NW_Rdr NA_Rdr NQ_Rdr pc q.1 q.2.1 q.2.2.1 q.2.2.2.1 q.2.2.2.2) (by decide +kernel) hq)
set_option maxRecDepth 100000 in
theorem kp_Rdr_stepNumbers {av : List AV} {m : Mm} {r : Int32 × Mm} (h : c_Rdr_stepNumbers av m = some r) : ab_kp m r.2 := by
  obtain ⟨v0, v1, v2, -, h⟩ := c_Rdr_stepNumbers_inv h
  rw [r_Rdr_stepNumbers_eq] at h
  have hV : ∀ a av m m', eV_Rdr_stepNumbers a av m = some m' → ab_kp m m' := ab_ev_all (P := fun _ m r => ab_kp m r) [] (fun q hq => by cases hq)
  have hI : ∀ a av m q, eI_Rdr_stepNumbers a av m = some q → ab_kp m q.2 := ab_ev_all (P := fun _ (m : Mm) (r : Int32 × Mm) => ab_kp m r.2) [(24, c_Rdr_nextNumber)] (List.forall_mem_cons.mpr ⟨fun av m r h => kp_Rdr_nextNumber h, fun q hq => by cases hq⟩)
  exact ab_kprel (ρ := .inl (some (.inl r.1), r.2)) (ab_tab_isn (t := t_Rdr_stepNumbers) (by decide +kernel)) hV hI (ab_rI_inv h)
set_option maxRecDepth 100000 in
theorem cl_Rdr_stepNumbers (l : Launch) : ∀ (pc : Nat) (q : Ent), i_Rdr_stepNumbers pc = some q → ab_inv q.1 = true → ab_CR l KT CL none ab_gW "StreamTransport$Reader" prog_8_method_7_code 4 2 44 eV_Rdr_stepNumbers eI_Rdr_stepNumbers pc q := by
  intro pc q hq hi
  have hm : pc ∈ cs_Rdr_stepNumbers := ab_tab_cs (t := t_Rdr_stepNumbers) (by decide +kernel) hq hi
  simp only [cs_Rdr_stepNumbers, List.mem_cons, List.not_mem_nil, or_false] at hm
  rcases hm with rfl
  · cases (Option.some.inj hq : ((.invokevirtual 52, 24, 1, 1, 0) : Ent) = q)
    exact ab_crV (C := "StreamTransport$Reader") (by decide +kernel) cw_Rdr_nextNumber (ab_gW_in 660 (by decide +kernel) rfl) is_Rdr_nextNumber sl_Rdr_nextNumber (by decide) (fun av m m' h => by cases h) (fun av m r h => cm_Rdr_nextNumber l h) KT_nd
theorem cw_Rdr_stepNumbers : ab_cw y_Rdr_stepNumbers prog_8_method_7_code 4 2 (some .boolean) := ⟨ab_gW_in 659 (by decide +kernel) rfl, ab_gW_in 65 (by decide +kernel) rfl, by decide +kernel, by decide +kernel, by decide +kernel⟩
theorem is_Rdr_stepNumbers : Cond.instanceMethod y_Rdr_stepNumbers ∈ ab_gW := ab_gW_in 658 (by decide +kernel) rfl
theorem sl_Rdr_stepNumbers : Cond.selects "StreamTransport$Reader" y_Rdr_stepNumbers y_Rdr_stepNumbers ∈ ab_gW := ab_gW_in 15 (by decide +kernel) rfl
set_option maxRecDepth 100000 in
theorem cm_Rdr_stepNumbers (l : Launch) {av : List AV} {m : Mm} {r : Int32 × Mm} (h0 : c_Rdr_stepNumbers av m = some r) : ∃ (k q : Nat) (av' : List AV) (ci : Nat) (fs : List (Nat × Nat × Nat × Nat)) (z : vw_C), av = .inr (.inr (k, some q)) :: av' ∧ av'.length = 2 ∧ k ≠ 0 ∧ KT[k]? = some (.inl (ci, fs)) ∧ CL[ci]? = some z ∧ z.1 = "StreamTransport$Reader" ∧ ab_nos av' ∧ ab_Met l KT CL y_Rdr_stepNumbers (Cond.code y_Rdr_stepNumbers prog_8_method_7_code 4 (some .boolean) :: ab_gW) 2 44 none av m (some (.inl r.1)) r.2 := by
  obtain ⟨v0, v1, v2, hav, h⟩ := c_Rdr_stepNumbers_inv h0
  rw [r_Rdr_stepNumbers_eq] at h
  have hmo : ab_mo m r.2 := ab_kp_mo (kp_Rdr_stepNumbers h0)
  subst hav
  exact ⟨_, _, _, _, _, _, rfl, rfl, by decide, rfl, rfl, rfl, (by intro v hv q e; subst e; simp at hv), ab_met (by decide +kernel) KT_0 KT_nd KT_k3 E_Rdr_stepNumbers (cl_Rdr_stepNumbers l) hmo (Nat.le_of_ble_eq_true rfl) (ab_rI_inv h) (fun v hv => by cases hv; exact ⟨_, rfl⟩)⟩
/-! StreamTransport$Reader.stepStream()Z -/
def y_Rdr_stepStream : MethodName := ⟨"StreamTransport$Reader", "stepStream", "()Z"⟩
def t_Rdr_stepStream (pc : Nat) : Option Ent :=
  bif Nat.blt pc 27 then
    (bif Nat.blt pc 12 then
      (bif Nat.blt pc 6 then
        (bif Nat.blt pc 2 then
          (bif Nat.blt pc 1 then
            (bif Nat.beq pc 0 then some (.aload_n 0, 0, 0, 0, 0) else none)
          else
            bif Nat.beq pc 1 then some (.iconst 0, 0, 0, 0, 0) else none)
        else
          bif Nat.blt pc 3 then
            (bif Nat.beq pc 2 then some (.iconst 3, 0, 0, 0, 3) else none)
          else
            bif Nat.beq pc 3 then some (.invokevirtual 45, 25, 3, 1, 0) else none)
      else
        bif Nat.blt pc 10 then
          (bif Nat.blt pc 9 then
            (bif Nat.beq pc 6 then some (.ifCond .ne (5), 11, 0, 0, 0) else none)
          else
            bif Nat.beq pc 9 then some (.iconst 0, 0, 0, 0, 0) else none)
        else
          bif Nat.blt pc 11 then
            (bif Nat.beq pc 10 then some (.ireturn, 0, 0, 1, 0) else none)
          else
            bif Nat.beq pc 11 then some (.aload_n 0, 0, 0, 0, 0) else none)
    else
      bif Nat.blt pc 20 then
        (bif Nat.blt pc 16 then
          (bif Nat.blt pc 13 then
            (bif Nat.beq pc 12 then some (.aload_n 0, 0, 0, 0, 0) else none)
          else
            bif Nat.beq pc 13 then some (.getfield 19, 6, 4, 0, 0) else none)
        else
          bif Nat.blt pc 19 then
            (bif Nat.beq pc 16 then some (.putfield 49, 6, 3, 0, 0) else none)
          else
            bif Nat.beq pc 19 then some (.aload_n 0, 0, 0, 0, 0) else none)
      else
        bif Nat.blt pc 24 then
          (bif Nat.blt pc 23 then
            (bif Nat.beq pc 20 then some (.getfield 9, 6, 0, 1, 0) else none)
          else
            bif Nat.beq pc 23 then some (.iconst 2, 0, 0, 0, 2) else none)
        else
          bif Nat.blt pc 25 then
            (bif Nat.beq pc 24 then some (.iaload, 0, 0, 0, 0) else none)
          else
            bif Nat.blt pc 26 then
              (bif Nat.beq pc 25 then some (.iconst 2, 0, 0, 0, 2) else none)
            else
              bif Nat.beq pc 26 then some (.idiv, 0, 0, 0, 0) else none)
  else
    bif Nat.blt pc 42 then
      (bif Nat.blt pc 33 then
        (bif Nat.blt pc 29 then
          (bif Nat.blt pc 28 then
            (bif Nat.beq pc 27 then some (.istore_n 1, 1, 0, 0, 0) else none)
          else
            bif Nat.beq pc 28 then some (.iload_n 1, 1, 0, 0, 0) else none)
        else
          bif Nat.blt pc 30 then
            (bif Nat.beq pc 29 then some (.aload_n 0, 0, 0, 0, 0) else none)
          else
            bif Nat.beq pc 30 then some (.getfield 28, 6, 5, 0, 0) else none)
      else
        bif Nat.blt pc 37 then
          (bif Nat.blt pc 34 then
            (bif Nat.beq pc 33 then some (.aload_n 0, 0, 0, 0, 0) else none)
          else
            bif Nat.beq pc 34 then some (.getfield 19, 6, 4, 0, 0) else none)
        else
          bif Nat.blt pc 38 then
            (bif Nat.beq pc 37 then some (.isub, 0, 0, 0, 0) else none)
          else
            bif Nat.blt pc 41 then
              (bif Nat.beq pc 38 then some (.if_icmp .le (5), 43, 0, 0, 0) else none)
            else
              bif Nat.beq pc 41 then some (.iconst 0, 0, 0, 0, 0) else none)
    else
      bif Nat.blt pc 48 then
        (bif Nat.blt pc 44 then
          (bif Nat.blt pc 43 then
            (bif Nat.beq pc 42 then some (.ireturn, 0, 0, 1, 0) else none)
          else
            bif Nat.beq pc 43 then some (.aload_n 0, 0, 0, 0, 0) else none)
        else
          bif Nat.blt pc 45 then
            (bif Nat.beq pc 44 then some (.dup, 0, 0, 1, 0) else none)
          else
            bif Nat.beq pc 45 then some (.getfield 19, 6, 4, 0, 0) else none)
      else
        bif Nat.blt pc 50 then
          (bif Nat.blt pc 49 then
            (bif Nat.beq pc 48 then some (.iload_n 1, 1, 0, 0, 0) else none)
          else
            bif Nat.beq pc 49 then some (.iadd, 0, 0, 0, 0) else none)
        else
          bif Nat.blt pc 53 then
            (bif Nat.beq pc 50 then some (.putfield 19, 6, 4, 0, 0) else none)
          else
            bif Nat.blt pc 54 then
              (bif Nat.beq pc 53 then some (.iconst 1, 0, 0, 0, 1) else none)
            else
              bif Nat.beq pc 54 then some (.ireturn, 0, 0, 1, 0) else none
def i_Rdr_stepStream : Nat → Option Ent := ab_tab 55 t_Rdr_stepStream
def h_Rdr_stepStream (pc : Nat) : Nat × List Bool := (0, [])
def s_Rdr_stepStream (pc : Nat) : List (Int32 × Nat) × Nat := ([], 0)
noncomputable def eV_Rdr_stepStream : Nat → List AV → Mm → Option Mm := ab_ev []
noncomputable def eI_Rdr_stepStream : Nat → List AV → Mm → Option (Int32 × Mm) := ab_ev [(25, c_Rdr_stepNumbers)]
noncomputable def b_Rdr_stepStream_0 (f : Nat) (v0 : Nat) (m : Mm) : Option Rs := ab_ex KT none s_Rdr_stepStream eV_Rdr_stepStream eI_Rdr_stepStream i_Rdr_stepStream h_Rdr_stepStream f 0 [some (.inr (.inr (10, some v0))), none] [] m
set_option maxRecDepth 100000 in
set_option maxHeartbeats 4000000 in
theorem b_Rdr_stepStream_0_eq (f : Nat) (v0 : Nat) (m : Mm) : b_Rdr_stepStream_0 (f + 1) v0 m =
    (r_Rdr_stepNumbers v0 (0 : Int32) (3 : Int32) m).bind fun z1 =>
    if z1.1 = 0 then
      (ab_bo (0 : Int32)).bind fun y8 => some (.inl (some (.inl y8), z1.2))
    else
      ab_let (ab_uI z1.2 35 v0 0 (z1.2.1 36 v0 0)) fun m2 =>
      (ab_ix (2 : Int32) 7).bind fun i3 =>
      if (2 : Int32) = 0 then none else
      ab_let (((m2.1 38 (v0 + 1) i3) / (2 : Int32))) fun x4 =>
      if x4 ≤ ((m2.1 37 v0 0) - (m2.1 36 v0 0)) then
        ab_let (ab_uI m2 36 v0 0 ((m2.1 36 v0 0) + x4)) fun m5 =>
        (ab_bo (1 : Int32)).bind fun y6 => some (.inl (some (.inl y6), m5))
      else
        (ab_bo (0 : Int32)).bind fun y7 => some (.inl (some (.inl y7), m2)) := rfl
noncomputable def r_Rdr_stepStream : Nat → Mm → Option (Int32 × Mm) := ab_seal fun v0 m => ab_rI (b_Rdr_stepStream_0 50000 v0 m)
theorem r_Rdr_stepStream_eq (v0 : Nat) (m : Mm) : r_Rdr_stepStream v0 m = ab_rI (b_Rdr_stepStream_0 50000 v0 m) := by
  unfold r_Rdr_stepStream
  rw [ab_seal_eq]
noncomputable def c_Rdr_stepStream : List AV → Mm → Option (Int32 × Mm) := fun av m => match av with
  | [.inr (.inr (kv0, ov0))] => if kv0 = 10 then (ov0.bind fun v0 => r_Rdr_stepStream v0 m) else none
  | _ => none
theorem c_Rdr_stepStream_inv {av : List AV} {m : Mm} {r : Int32 × Mm} (h : c_Rdr_stepStream av m = some r) : ∃ (v0 : Nat), av = [.inr (.inr (10, some v0))] ∧ r_Rdr_stepStream v0 m = some r := by
  unfold c_Rdr_stepStream at h
  split at h
  · rename_i kv0 ov0
    by_cases hkv0 : kv0 = 10
    case neg => rw [if_neg hkv0] at h; cases h
    rw [if_pos hkv0] at h
    subst hkv0
    obtain ⟨v0, hev0, h⟩ := Option.bind_eq_some_iff.mp h
    subst hev0
    exact ⟨v0, rfl, h⟩
  · cases h
def cs_Rdr_stepStream : List Nat := [3]
set_option maxRecDepth 100000 in
theorem E_Rdr_stepStream : ∀ (pc : Nat) (q : Ent), i_Rdr_stepStream pc = some q → ab_E KT CL ab_gW "StreamTransport$Reader" "stepStream" (some .boolean) prog_8_method_6_code s_Rdr_stepStream 2 pc q.1 q.2.1 q.2.2.1 q.2.2.2.1 q.2.2.2.2 := fun pc q hq =>
  ab_Eb_ok lc_Rdr lj_Rdr fl_Rdr (fpn_Rdr "stepStream") nw_Rdr na_Rdr nq_Rdr (ab_tab_all (t := t_Rdr_stepStream) (chk := fun pc q => ab_Eb (some .boolean) prog_8_method_6_code s_Rdr_stepStream 2 LC_Rdr LJ_Rdr FL_Rdr FPn_Rdr NW_Rdr NA_Rdr NQ_Rdr pc q.1 q.2.1 q.2.2.1 q.2.2.2.1 q.2.2.2.2) (by decide +kernel) hq)
set_option maxRecDepth 100000 in
theorem kp_Rdr_stepStream {av : List AV} {m : Mm} {r : Int32 × Mm} (h : c_Rdr_stepStream av m = some r) : ab_kp m r.2 := by
  obtain ⟨v0, -, h⟩ := c_Rdr_stepStream_inv h
  rw [r_Rdr_stepStream_eq] at h
  have hV : ∀ a av m m', eV_Rdr_stepStream a av m = some m' → ab_kp m m' := ab_ev_all (P := fun _ m r => ab_kp m r) [] (fun q hq => by cases hq)
  have hI : ∀ a av m q, eI_Rdr_stepStream a av m = some q → ab_kp m q.2 := ab_ev_all (P := fun _ (m : Mm) (r : Int32 × Mm) => ab_kp m r.2) [(25, c_Rdr_stepNumbers)] (List.forall_mem_cons.mpr ⟨fun av m r h => kp_Rdr_stepNumbers h, fun q hq => by cases hq⟩)
  exact ab_kprel (ρ := .inl (some (.inl r.1), r.2)) (ab_tab_isn (t := t_Rdr_stepStream) (by decide +kernel)) hV hI (ab_rI_inv h)
set_option maxRecDepth 100000 in
theorem cl_Rdr_stepStream (l : Launch) : ∀ (pc : Nat) (q : Ent), i_Rdr_stepStream pc = some q → ab_inv q.1 = true → ab_CR l KT CL none ab_gW "StreamTransport$Reader" prog_8_method_6_code 2 3 67 eV_Rdr_stepStream eI_Rdr_stepStream pc q := by
  intro pc q hq hi
  have hm : pc ∈ cs_Rdr_stepStream := ab_tab_cs (t := t_Rdr_stepStream) (by decide +kernel) hq hi
  simp only [cs_Rdr_stepStream, List.mem_cons, List.not_mem_nil, or_false] at hm
  rcases hm with rfl
  · cases (Option.some.inj hq : ((.invokevirtual 45, 25, 3, 1, 0) : Ent) = q)
    exact ab_crV (C := "StreamTransport$Reader") (by decide +kernel) cw_Rdr_stepNumbers (ab_gW_in 656 (by decide +kernel) rfl) is_Rdr_stepNumbers sl_Rdr_stepNumbers (by decide) (fun av m m' h => by cases h) (fun av m r h => cm_Rdr_stepNumbers l h) KT_nd
theorem cw_Rdr_stepStream : ab_cw y_Rdr_stepStream prog_8_method_6_code 2 0 (some .boolean) := ⟨ab_gW_in 667 (by decide +kernel) rfl, ab_gW_in 65 (by decide +kernel) rfl, by decide +kernel, by decide +kernel, by decide +kernel⟩
theorem is_Rdr_stepStream : Cond.instanceMethod y_Rdr_stepStream ∈ ab_gW := ab_gW_in 666 (by decide +kernel) rfl
theorem sl_Rdr_stepStream : Cond.selects "StreamTransport$Reader" y_Rdr_stepStream y_Rdr_stepStream ∈ ab_gW := ab_gW_in 17 (by decide +kernel) rfl
set_option maxRecDepth 100000 in
theorem cm_Rdr_stepStream (l : Launch) {av : List AV} {m : Mm} {r : Int32 × Mm} (h0 : c_Rdr_stepStream av m = some r) : ∃ (k q : Nat) (av' : List AV) (ci : Nat) (fs : List (Nat × Nat × Nat × Nat)) (z : vw_C), av = .inr (.inr (k, some q)) :: av' ∧ av'.length = 0 ∧ k ≠ 0 ∧ KT[k]? = some (.inl (ci, fs)) ∧ CL[ci]? = some z ∧ z.1 = "StreamTransport$Reader" ∧ ab_nos av' ∧ ab_Met l KT CL y_Rdr_stepStream (Cond.code y_Rdr_stepStream prog_8_method_6_code 2 (some .boolean) :: ab_gW) 3 67 none av m (some (.inl r.1)) r.2 := by
  obtain ⟨v0, hav, h⟩ := c_Rdr_stepStream_inv h0
  rw [r_Rdr_stepStream_eq] at h
  have hmo : ab_mo m r.2 := ab_kp_mo (kp_Rdr_stepStream h0)
  subst hav
  exact ⟨_, _, _, _, _, _, rfl, rfl, by decide, rfl, rfl, rfl, (by intro v hv q e; subst e; simp at hv), ab_met (by decide +kernel) KT_0 KT_nd KT_k3 E_Rdr_stepStream (cl_Rdr_stepStream l) hmo (Nat.le_of_ble_eq_true rfl) (ab_rI_inv h) (fun v hv => by cases hv; exact ⟨_, rfl⟩)⟩
/-! StreamTransport$Reader.stepAck()Z -/
def y_Rdr_stepAck : MethodName := ⟨"StreamTransport$Reader", "stepAck", "()Z"⟩
def t_Rdr_stepAck (pc : Nat) : Option Ent :=
  bif Nat.blt pc 19 then
    (bif Nat.blt pc 9 then
      (bif Nat.blt pc 2 then
        (bif Nat.blt pc 1 then
          (bif Nat.beq pc 0 then some (.aload_n 0, 0, 0, 0, 0) else none)
        else
          bif Nat.beq pc 1 then some (.iconst 0, 0, 0, 0, 0) else none)
      else
        bif Nat.blt pc 3 then
          (bif Nat.beq pc 2 then some (.iconst 3, 0, 0, 0, 3) else none)
        else
          bif Nat.blt pc 6 then
            (bif Nat.beq pc 3 then some (.invokevirtual 45, 25, 3, 1, 0) else none)
          else
            bif Nat.beq pc 6 then some (.ifCond .eq (13), 19, 0, 0, 0) else none)
    else
      bif Nat.blt pc 14 then
        (bif Nat.blt pc 10 then
          (bif Nat.beq pc 9 then some (.aload_n 0, 0, 0, 0, 0) else none)
        else
          bif Nat.blt pc 13 then
            (bif Nat.beq pc 10 then some (.getfield 9, 6, 0, 1, 0) else none)
          else
            bif Nat.beq pc 13 then some (.iconst 2, 0, 0, 0, 2) else none)
      else
        bif Nat.blt pc 15 then
          (bif Nat.beq pc 14 then some (.iaload, 0, 0, 0, 0) else none)
        else
          bif Nat.blt pc 16 then
            (bif Nat.beq pc 15 then some (.iconst 2, 0, 0, 0, 2) else none)
          else
            bif Nat.beq pc 16 then some (.if_icmp .le (5), 21, 0, 0, 0) else none)
  else
    bif Nat.blt pc 25 then
      (bif Nat.blt pc 22 then
        (bif Nat.blt pc 20 then
          (bif Nat.beq pc 19 then some (.iconst 0, 0, 0, 0, 0) else none)
        else
          bif Nat.blt pc 21 then
            (bif Nat.beq pc 20 then some (.ireturn, 0, 0, 1, 0) else none)
          else
            bif Nat.beq pc 21 then some (.aload_n 0, 0, 0, 0, 0) else none)
      else
        bif Nat.blt pc 23 then
          (bif Nat.beq pc 22 then some (.iconst 3, 0, 0, 0, 3) else none)
        else
          bif Nat.blt pc 24 then
            (bif Nat.beq pc 23 then some (.iconst 2, 0, 0, 0, 2) else none)
          else
            bif Nat.beq pc 24 then some (.aload_n 0, 0, 0, 0, 0) else none)
    else
      bif Nat.blt pc 30 then
        (bif Nat.blt pc 28 then
          (bif Nat.beq pc 25 then some (.getfield 9, 6, 0, 1, 0) else none)
        else
          bif Nat.blt pc 29 then
            (bif Nat.beq pc 28 then some (.iconst 2, 0, 0, 0, 2) else none)
          else
            bif Nat.beq pc 29 then some (.iaload, 0, 0, 0, 0) else none)
      else
        bif Nat.blt pc 31 then
          (bif Nat.beq pc 30 then some (.imul, 0, 0, 0, 0) else none)
        else
          bif Nat.blt pc 34 then
            (bif Nat.beq pc 31 then some (.invokevirtual 45, 25, 3, 1, 0) else none)
          else
            bif Nat.beq pc 34 then some (.ireturn, 0, 0, 1, 0) else none
def i_Rdr_stepAck : Nat → Option Ent := ab_tab 35 t_Rdr_stepAck
def h_Rdr_stepAck (pc : Nat) : Nat × List Bool := (0, [])
def s_Rdr_stepAck (pc : Nat) : List (Int32 × Nat) × Nat := ([], 0)
noncomputable def eV_Rdr_stepAck : Nat → List AV → Mm → Option Mm := ab_ev []
noncomputable def eI_Rdr_stepAck : Nat → List AV → Mm → Option (Int32 × Mm) := ab_ev [(25, c_Rdr_stepNumbers)]
noncomputable def b_Rdr_stepAck_0 (f : Nat) (v0 : Nat) (m : Mm) : Option Rs := ab_ex KT none s_Rdr_stepAck eV_Rdr_stepAck eI_Rdr_stepAck i_Rdr_stepAck h_Rdr_stepAck f 0 [some (.inr (.inr (10, some v0)))] [] m
set_option maxRecDepth 100000 in
set_option maxHeartbeats 4000000 in
theorem b_Rdr_stepAck_0_eq (f : Nat) (v0 : Nat) (m : Mm) : b_Rdr_stepAck_0 (f + 1) v0 m =
    (r_Rdr_stepNumbers v0 (0 : Int32) (3 : Int32) m).bind fun z1 =>
    if z1.1 = 0 then
      (ab_bo (0 : Int32)).bind fun y2 => some (.inl (some (.inl y2), z1.2))
    else
      (ab_ix (2 : Int32) 7).bind fun i3 =>
      if (z1.2.1 38 (v0 + 1) i3) ≤ (2 : Int32) then
        (ab_ix (2 : Int32) 7).bind fun i4 =>
        (r_Rdr_stepNumbers v0 (3 : Int32) ((2 : Int32) * (z1.2.1 38 (v0 + 1) i4)) z1.2).bind fun z5 =>
        (ab_bo z5.1).bind fun y6 => some (.inl (some (.inl y6), z5.2))
      else
        (ab_bo (0 : Int32)).bind fun y7 => some (.inl (some (.inl y7), z1.2)) := rfl
noncomputable def r_Rdr_stepAck : Nat → Mm → Option (Int32 × Mm) := ab_seal fun v0 m => ab_rI (b_Rdr_stepAck_0 50000 v0 m)
theorem r_Rdr_stepAck_eq (v0 : Nat) (m : Mm) : r_Rdr_stepAck v0 m = ab_rI (b_Rdr_stepAck_0 50000 v0 m) := by
  unfold r_Rdr_stepAck
  rw [ab_seal_eq]
noncomputable def c_Rdr_stepAck : List AV → Mm → Option (Int32 × Mm) := fun av m => match av with
  | [.inr (.inr (kv0, ov0))] => if kv0 = 10 then (ov0.bind fun v0 => r_Rdr_stepAck v0 m) else none
  | _ => none
theorem c_Rdr_stepAck_inv {av : List AV} {m : Mm} {r : Int32 × Mm} (h : c_Rdr_stepAck av m = some r) : ∃ (v0 : Nat), av = [.inr (.inr (10, some v0))] ∧ r_Rdr_stepAck v0 m = some r := by
  unfold c_Rdr_stepAck at h
  split at h
  · rename_i kv0 ov0
    by_cases hkv0 : kv0 = 10
    case neg => rw [if_neg hkv0] at h; cases h
    rw [if_pos hkv0] at h
    subst hkv0
    obtain ⟨v0, hev0, h⟩ := Option.bind_eq_some_iff.mp h
    subst hev0
    exact ⟨v0, rfl, h⟩
  · cases h
def cs_Rdr_stepAck : List Nat := [3, 31]
set_option maxRecDepth 100000 in
theorem E_Rdr_stepAck : ∀ (pc : Nat) (q : Ent), i_Rdr_stepAck pc = some q → ab_E KT CL ab_gW "StreamTransport$Reader" "stepAck" (some .boolean) prog_8_method_5_code s_Rdr_stepAck 1 pc q.1 q.2.1 q.2.2.1 q.2.2.2.1 q.2.2.2.2 := fun pc q hq =>
  ab_Eb_ok lc_Rdr lj_Rdr fl_Rdr (fpn_Rdr "stepAck") nw_Rdr na_Rdr nq_Rdr (ab_tab_all (t := t_Rdr_stepAck) (chk := fun pc q => ab_Eb (some .boolean) prog_8_method_5_code s_Rdr_stepAck 1 LC_Rdr LJ_Rdr FL_Rdr FPn_Rdr NW_Rdr NA_Rdr NQ_Rdr pc q.1 q.2.1 q.2.2.1 q.2.2.2.1 q.2.2.2.2) (by decide +kernel) hq)
set_option maxRecDepth 100000 in
theorem kp_Rdr_stepAck {av : List AV} {m : Mm} {r : Int32 × Mm} (h : c_Rdr_stepAck av m = some r) : ab_kp m r.2 := by
  obtain ⟨v0, -, h⟩ := c_Rdr_stepAck_inv h
  rw [r_Rdr_stepAck_eq] at h
  have hV : ∀ a av m m', eV_Rdr_stepAck a av m = some m' → ab_kp m m' := ab_ev_all (P := fun _ m r => ab_kp m r) [] (fun q hq => by cases hq)
  have hI : ∀ a av m q, eI_Rdr_stepAck a av m = some q → ab_kp m q.2 := ab_ev_all (P := fun _ (m : Mm) (r : Int32 × Mm) => ab_kp m r.2) [(25, c_Rdr_stepNumbers)] (List.forall_mem_cons.mpr ⟨fun av m r h => kp_Rdr_stepNumbers h, fun q hq => by cases hq⟩)
  exact ab_kprel (ρ := .inl (some (.inl r.1), r.2)) (ab_tab_isn (t := t_Rdr_stepAck) (by decide +kernel)) hV hI (ab_rI_inv h)
set_option maxRecDepth 100000 in
theorem cl_Rdr_stepAck (l : Launch) : ∀ (pc : Nat) (q : Ent), i_Rdr_stepAck pc = some q → ab_inv q.1 = true → ab_CR l KT CL none ab_gW "StreamTransport$Reader" prog_8_method_5_code 1 3 67 eV_Rdr_stepAck eI_Rdr_stepAck pc q := by
  intro pc q hq hi
  have hm : pc ∈ cs_Rdr_stepAck := ab_tab_cs (t := t_Rdr_stepAck) (by decide +kernel) hq hi
  simp only [cs_Rdr_stepAck, List.mem_cons, List.not_mem_nil, or_false] at hm
  rcases hm with rfl | rfl
  · cases (Option.some.inj hq : ((.invokevirtual 45, 25, 3, 1, 0) : Ent) = q)
    exact ab_crV (C := "StreamTransport$Reader") (by decide +kernel) cw_Rdr_stepNumbers (ab_gW_in 656 (by decide +kernel) rfl) is_Rdr_stepNumbers sl_Rdr_stepNumbers (by decide) (fun av m m' h => by cases h) (fun av m r h => cm_Rdr_stepNumbers l h) KT_nd
  · cases (Option.some.inj hq : ((.invokevirtual 45, 25, 3, 1, 0) : Ent) = q)
    exact ab_crV (C := "StreamTransport$Reader") (by decide +kernel) cw_Rdr_stepNumbers (ab_gW_in 656 (by decide +kernel) rfl) is_Rdr_stepNumbers sl_Rdr_stepNumbers (by decide) (fun av m m' h => by cases h) (fun av m r h => cm_Rdr_stepNumbers l h) KT_nd
theorem cw_Rdr_stepAck : ab_cw y_Rdr_stepAck prog_8_method_5_code 1 0 (some .boolean) := ⟨ab_gW_in 655 (by decide +kernel) rfl, ab_gW_in 65 (by decide +kernel) rfl, by decide +kernel, by decide +kernel, by decide +kernel⟩
theorem is_Rdr_stepAck : Cond.instanceMethod y_Rdr_stepAck ∈ ab_gW := ab_gW_in 654 (by decide +kernel) rfl
theorem sl_Rdr_stepAck : Cond.selects "StreamTransport$Reader" y_Rdr_stepAck y_Rdr_stepAck ∈ ab_gW := ab_gW_in 14 (by decide +kernel) rfl
set_option maxRecDepth 100000 in
theorem cm_Rdr_stepAck (l : Launch) {av : List AV} {m : Mm} {r : Int32 × Mm} (h0 : c_Rdr_stepAck av m = some r) : ∃ (k q : Nat) (av' : List AV) (ci : Nat) (fs : List (Nat × Nat × Nat × Nat)) (z : vw_C), av = .inr (.inr (k, some q)) :: av' ∧ av'.length = 0 ∧ k ≠ 0 ∧ KT[k]? = some (.inl (ci, fs)) ∧ CL[ci]? = some z ∧ z.1 = "StreamTransport$Reader" ∧ ab_nos av' ∧ ab_Met l KT CL y_Rdr_stepAck (Cond.code y_Rdr_stepAck prog_8_method_5_code 1 (some .boolean) :: ab_gW) 3 67 none av m (some (.inl r.1)) r.2 := by
  obtain ⟨v0, hav, h⟩ := c_Rdr_stepAck_inv h0
  rw [r_Rdr_stepAck_eq] at h
  have hmo : ab_mo m r.2 := ab_kp_mo (kp_Rdr_stepAck h0)
  subst hav
  exact ⟨_, _, _, _, _, _, rfl, rfl, by decide, rfl, rfl, rfl, (by intro v hv q e; subst e; simp at hv), ab_met (by decide +kernel) KT_0 KT_nd KT_k3 E_Rdr_stepAck (cl_Rdr_stepAck l) hmo (Nat.le_of_ble_eq_true rfl) (ab_rI_inv h) (fun v hv => by cases hv; exact ⟨_, rfl⟩)⟩
/-! StreamTransport$Reader.step()Z -/
def y_Rdr_step : MethodName := ⟨"StreamTransport$Reader", "step", "()Z"⟩
def t_Rdr_step (pc : Nat) : Option Ent :=
  bif Nat.blt pc 71 then
    (bif Nat.blt pc 58 then
      (bif Nat.blt pc 8 then
        (bif Nat.blt pc 2 then
          (bif Nat.blt pc 1 then
            (bif Nat.beq pc 0 then some (.aload_n 0, 0, 0, 0, 0) else none)
          else
            bif Nat.beq pc 1 then some (.aload_n 0, 0, 0, 0, 0) else none)
        else
          bif Nat.blt pc 5 then
            (bif Nat.beq pc 2 then some (.invokevirtual 31, 23, 1, 1, 0) else none)
          else
            bif Nat.beq pc 5 then some (.putfield 35, 6, 1, 0, 0) else none)
      else
        bif Nat.blt pc 12 then
          (bif Nat.blt pc 9 then
            (bif Nat.beq pc 8 then some (.aload_n 0, 0, 0, 0, 0) else none)
          else
            bif Nat.beq pc 9 then some (.getfield 35, 6, 1, 0, 0) else none)
        else
          bif Nat.blt pc 56 then
            (bif Nat.beq pc 12 then some (.tableswitch (84) (0) (6) #[(44), (46), (51), (56), (63), (70), (77)], 0, 0, 0, 0) else none)
          else
            bif Nat.blt pc 57 then
              (bif Nat.beq pc 56 then some (.iconst 1, 0, 0, 0, 1) else none)
            else
              bif Nat.beq pc 57 then some (.ireturn, 0, 0, 1, 0) else none)
    else
      bif Nat.blt pc 64 then
        (bif Nat.blt pc 62 then
          (bif Nat.blt pc 59 then
            (bif Nat.beq pc 58 then some (.aload_n 0, 0, 0, 0, 0) else none)
          else
            bif Nat.beq pc 59 then some (.invokevirtual 38, 27, 1, 1, 0) else none)
        else
          bif Nat.blt pc 63 then
            (bif Nat.beq pc 62 then some (.ireturn, 0, 0, 1, 0) else none)
          else
            bif Nat.beq pc 63 then some (.aload_n 0, 0, 0, 0, 0) else none)
      else
        bif Nat.blt pc 68 then
          (bif Nat.blt pc 67 then
            (bif Nat.beq pc 64 then some (.invokevirtual 42, 26, 1, 1, 0) else none)
          else
            bif Nat.beq pc 67 then some (.ireturn, 0, 0, 1, 0) else none)
        else
          bif Nat.blt pc 69 then
            (bif Nat.beq pc 68 then some (.aload_n 0, 0, 0, 0, 0) else none)
          else
            bif Nat.blt pc 70 then
              (bif Nat.beq pc 69 then some (.iconst 0, 0, 0, 0, 0) else none)
            else
              bif Nat.beq pc 70 then some (.iconst 1, 0, 0, 0, 1) else none)
  else
    bif Nat.blt pc 84 then
      (bif Nat.blt pc 77 then
        (bif Nat.blt pc 75 then
          (bif Nat.blt pc 74 then
            (bif Nat.beq pc 71 then some (.invokevirtual 45, 25, 3, 1, 0) else none)
          else
            bif Nat.beq pc 74 then some (.ireturn, 0, 0, 1, 0) else none)
        else
          bif Nat.blt pc 76 then
            (bif Nat.beq pc 75 then some (.aload_n 0, 0, 0, 0, 0) else none)
          else
            bif Nat.beq pc 76 then some (.iconst 0, 0, 0, 0, 0) else none)
      else
        bif Nat.blt pc 81 then
          (bif Nat.blt pc 78 then
            (bif Nat.beq pc 77 then some (.iconst 2, 0, 0, 0, 2) else none)
          else
            bif Nat.beq pc 78 then some (.invokevirtual 45, 25, 3, 1, 0) else none)
        else
          bif Nat.blt pc 82 then
            (bif Nat.beq pc 81 then some (.ireturn, 0, 0, 1, 0) else none)
          else
            bif Nat.blt pc 83 then
              (bif Nat.beq pc 82 then some (.aload_n 0, 0, 0, 0, 0) else none)
            else
              bif Nat.beq pc 83 then some (.iconst 0, 0, 0, 0, 0) else none)
    else
      bif Nat.blt pc 91 then
        (bif Nat.blt pc 88 then
          (bif Nat.blt pc 85 then
            (bif Nat.beq pc 84 then some (.iconst 2, 0, 0, 0, 2) else none)
          else
            bif Nat.beq pc 85 then some (.invokevirtual 45, 25, 3, 1, 0) else none)
        else
          bif Nat.blt pc 89 then
            (bif Nat.beq pc 88 then some (.ireturn, 0, 0, 1, 0) else none)
          else
            bif Nat.blt pc 90 then
              (bif Nat.beq pc 89 then some (.aload_n 0, 0, 0, 0, 0) else none)
            else
              bif Nat.beq pc 90 then some (.iconst 0, 0, 0, 0, 0) else none)
      else
        bif Nat.blt pc 95 then
          (bif Nat.blt pc 92 then
            (bif Nat.beq pc 91 then some (.iconst 1, 0, 0, 0, 1) else none)
          else
            bif Nat.beq pc 92 then some (.invokevirtual 45, 25, 3, 1, 0) else none)
        else
          bif Nat.blt pc 96 then
            (bif Nat.beq pc 95 then some (.ireturn, 0, 0, 1, 0) else none)
          else
            bif Nat.blt pc 97 then
              (bif Nat.beq pc 96 then some (.iconst 0, 0, 0, 0, 0) else none)
            else
              bif Nat.beq pc 97 then some (.ireturn, 0, 0, 1, 0) else none
def i_Rdr_step : Nat → Option Ent := ab_tab 98 t_Rdr_step
def h_Rdr_step (pc : Nat) : Nat × List Bool := (0, [])
def s_Rdr_step (pc : Nat) : List (Int32 × Nat) × Nat := bif Nat.beq pc 12 then ([(0, 56), (1, 58), (2, 63), (3, 68), (4, 75), (5, 82), (6, 89)], 96) else ([], 0)
noncomputable def eV_Rdr_step : Nat → List AV → Mm → Option Mm := ab_ev []
noncomputable def eI_Rdr_step : Nat → List AV → Mm → Option (Int32 × Mm) := ab_ev [(23, c_Rdr_nextByte), (27, c_Rdr_stepAck), (26, c_Rdr_stepStream), (25, c_Rdr_stepNumbers)]
noncomputable def b_Rdr_step_0 (f : Nat) (v0 : Nat) (m : Mm) : Option Rs := ab_ex KT none s_Rdr_step eV_Rdr_step eI_Rdr_step i_Rdr_step h_Rdr_step f 0 [some (.inr (.inr (10, some v0)))] [] m
set_option maxRecDepth 100000 in
set_option maxHeartbeats 4000000 in
theorem b_Rdr_step_0_eq (f : Nat) (v0 : Nat) (m : Mm) : b_Rdr_step_0 (f + 1) v0 m =
    (r_Rdr_nextByte v0 m).bind fun z1 =>
    ab_let (ab_uI z1.2 33 v0 0 z1.1) fun m2 =>
    if (m2.1 33 v0 0) = (0 : Int32) then
      (ab_bo (1 : Int32)).bind fun y3 => some (.inl (some (.inl y3), m2))
    else if (m2.1 33 v0 0) = (1 : Int32) then
      (r_Rdr_stepAck v0 m2).bind fun z4 =>
      (ab_bo z4.1).bind fun y5 => some (.inl (some (.inl y5), z4.2))
    else if (m2.1 33 v0 0) = (2 : Int32) then
      (r_Rdr_stepStream v0 m2).bind fun z6 =>
      (ab_bo z6.1).bind fun y7 => some (.inl (some (.inl y7), z6.2))
    else if (m2.1 33 v0 0) = (3 : Int32) then
      (r_Rdr_stepNumbers v0 (0 : Int32) (1 : Int32) m2).bind fun z8 =>
      (ab_bo z8.1).bind fun y9 => some (.inl (some (.inl y9), z8.2))
    else if (m2.1 33 v0 0) = (4 : Int32) then
      (r_Rdr_stepNumbers v0 (0 : Int32) (2 : Int32) m2).bind fun z10 =>
      (ab_bo z10.1).bind fun y11 => some (.inl (some (.inl y11), z10.2))
    else if (m2.1 33 v0 0) = (5 : Int32) then
      (r_Rdr_stepNumbers v0 (0 : Int32) (2 : Int32) m2).bind fun z12 =>
      (ab_bo z12.1).bind fun y13 => some (.inl (some (.inl y13), z12.2))
    else if (m2.1 33 v0 0) = (6 : Int32) then
      (r_Rdr_stepNumbers v0 (0 : Int32) (1 : Int32) m2).bind fun z14 =>
      (ab_bo z14.1).bind fun y15 => some (.inl (some (.inl y15), z14.2))
    else 
      (ab_bo (0 : Int32)).bind fun y16 => some (.inl (some (.inl y16), m2)) := rfl
noncomputable def r_Rdr_step : Nat → Mm → Option (Int32 × Mm) := ab_seal fun v0 m => ab_rI (b_Rdr_step_0 50000 v0 m)
theorem r_Rdr_step_eq (v0 : Nat) (m : Mm) : r_Rdr_step v0 m = ab_rI (b_Rdr_step_0 50000 v0 m) := by
  unfold r_Rdr_step
  rw [ab_seal_eq]
noncomputable def c_Rdr_step : List AV → Mm → Option (Int32 × Mm) := fun av m => match av with
  | [.inr (.inr (kv0, ov0))] => if kv0 = 10 then (ov0.bind fun v0 => r_Rdr_step v0 m) else none
  | _ => none
theorem c_Rdr_step_inv {av : List AV} {m : Mm} {r : Int32 × Mm} (h : c_Rdr_step av m = some r) : ∃ (v0 : Nat), av = [.inr (.inr (10, some v0))] ∧ r_Rdr_step v0 m = some r := by
  unfold c_Rdr_step at h
  split at h
  · rename_i kv0 ov0
    by_cases hkv0 : kv0 = 10
    case neg => rw [if_neg hkv0] at h; cases h
    rw [if_pos hkv0] at h
    subst hkv0
    obtain ⟨v0, hev0, h⟩ := Option.bind_eq_some_iff.mp h
    subst hev0
    exact ⟨v0, rfl, h⟩
  · cases h
def cs_Rdr_step : List Nat := [2, 59, 64, 71, 78, 85, 92]
set_option maxRecDepth 100000 in
theorem E_Rdr_step : ∀ (pc : Nat) (q : Ent), i_Rdr_step pc = some q → ab_E KT CL ab_gW "StreamTransport$Reader" "step" (some .boolean) prog_8_method_4_code s_Rdr_step 1 pc q.1 q.2.1 q.2.2.1 q.2.2.2.1 q.2.2.2.2 := fun pc q hq =>
  ab_Eb_ok lc_Rdr lj_Rdr fl_Rdr (fpn_Rdr "step") nw_Rdr na_Rdr nq_Rdr (ab_tab_all (t := t_Rdr_step) (chk := fun pc q => ab_Eb (some .boolean) prog_8_method_4_code s_Rdr_step 1 LC_Rdr LJ_Rdr FL_Rdr FPn_Rdr NW_Rdr NA_Rdr NQ_Rdr pc q.1 q.2.1 q.2.2.1 q.2.2.2.1 q.2.2.2.2) (by decide +kernel) hq)
set_option maxRecDepth 100000 in
theorem kp_Rdr_step {av : List AV} {m : Mm} {r : Int32 × Mm} (h : c_Rdr_step av m = some r) : ab_kp m r.2 := by
  obtain ⟨v0, -, h⟩ := c_Rdr_step_inv h
  rw [r_Rdr_step_eq] at h
  have hV : ∀ a av m m', eV_Rdr_step a av m = some m' → ab_kp m m' := ab_ev_all (P := fun _ m r => ab_kp m r) [] (fun q hq => by cases hq)
  have hI : ∀ a av m q, eI_Rdr_step a av m = some q → ab_kp m q.2 := ab_ev_all (P := fun _ (m : Mm) (r : Int32 × Mm) => ab_kp m r.2) [(23, c_Rdr_nextByte), (27, c_Rdr_stepAck), (26, c_Rdr_stepStream), (25, c_Rdr_stepNumbers)] (List.forall_mem_cons.mpr ⟨fun av m r h => kp_Rdr_nextByte h, List.forall_mem_cons.mpr ⟨fun av m r h => kp_Rdr_stepAck h, List.forall_mem_cons.mpr ⟨fun av m r h => kp_Rdr_stepStream h, List.forall_mem_cons.mpr ⟨fun av m r h => kp_Rdr_stepNumbers h, fun q hq => by cases hq⟩⟩⟩⟩)
  exact ab_kprel (ρ := .inl (some (.inl r.1), r.2)) (ab_tab_isn (t := t_Rdr_step) (by decide +kernel)) hV hI (ab_rI_inv h)
set_option maxRecDepth 100000 in
theorem cl_Rdr_step (l : Launch) : ∀ (pc : Nat) (q : Ent), i_Rdr_step pc = some q → ab_inv q.1 = true → ab_CR l KT CL none ab_gW "StreamTransport$Reader" prog_8_method_4_code 1 4 88 eV_Rdr_step eI_Rdr_step pc q := by
  intro pc q hq hi
  have hm : pc ∈ cs_Rdr_step := ab_tab_cs (t := t_Rdr_step) (by decide +kernel) hq hi
  simp only [cs_Rdr_step, List.mem_cons, List.not_mem_nil, or_false] at hm
  rcases hm with rfl | rfl | rfl | rfl | rfl | rfl | rfl
  · cases (Option.some.inj hq : ((.invokevirtual 31, 23, 1, 1, 0) : Ent) = q)
    exact ab_crV (C := "StreamTransport$Reader") (by decide +kernel) cw_Rdr_nextByte (ab_gW_in 648 (by decide +kernel) rfl) is_Rdr_nextByte sl_Rdr_nextByte (by decide) (fun av m m' h => by cases h) (fun av m r h => cm_Rdr_nextByte l h) KT_nd
  · cases (Option.some.inj hq : ((.invokevirtual 38, 27, 1, 1, 0) : Ent) = q)
    exact ab_crV (C := "StreamTransport$Reader") (by decide +kernel) cw_Rdr_stepAck (ab_gW_in 652 (by decide +kernel) rfl) is_Rdr_stepAck sl_Rdr_stepAck (by decide) (fun av m m' h => by cases h) (fun av m r h => cm_Rdr_stepAck l h) KT_nd
  · cases (Option.some.inj hq : ((.invokevirtual 42, 26, 1, 1, 0) : Ent) = q)
    exact ab_crV (C := "StreamTransport$Reader") (by decide +kernel) cw_Rdr_stepStream (ab_gW_in 664 (by decide +kernel) rfl) is_Rdr_stepStream sl_Rdr_stepStream (by decide) (fun av m m' h => by cases h) (fun av m r h => cm_Rdr_stepStream l h) KT_nd
  · cases (Option.some.inj hq : ((.invokevirtual 45, 25, 3, 1, 0) : Ent) = q)
    exact ab_crV (C := "StreamTransport$Reader") (by decide +kernel) cw_Rdr_stepNumbers (ab_gW_in 656 (by decide +kernel) rfl) is_Rdr_stepNumbers sl_Rdr_stepNumbers (by decide) (fun av m m' h => by cases h) (fun av m r h => cm_Rdr_stepNumbers l h) KT_nd
  · cases (Option.some.inj hq : ((.invokevirtual 45, 25, 3, 1, 0) : Ent) = q)
    exact ab_crV (C := "StreamTransport$Reader") (by decide +kernel) cw_Rdr_stepNumbers (ab_gW_in 656 (by decide +kernel) rfl) is_Rdr_stepNumbers sl_Rdr_stepNumbers (by decide) (fun av m m' h => by cases h) (fun av m r h => cm_Rdr_stepNumbers l h) KT_nd
  · cases (Option.some.inj hq : ((.invokevirtual 45, 25, 3, 1, 0) : Ent) = q)
    exact ab_crV (C := "StreamTransport$Reader") (by decide +kernel) cw_Rdr_stepNumbers (ab_gW_in 656 (by decide +kernel) rfl) is_Rdr_stepNumbers sl_Rdr_stepNumbers (by decide) (fun av m m' h => by cases h) (fun av m r h => cm_Rdr_stepNumbers l h) KT_nd
  · cases (Option.some.inj hq : ((.invokevirtual 45, 25, 3, 1, 0) : Ent) = q)
    exact ab_crV (C := "StreamTransport$Reader") (by decide +kernel) cw_Rdr_stepNumbers (ab_gW_in 656 (by decide +kernel) rfl) is_Rdr_stepNumbers sl_Rdr_stepNumbers (by decide) (fun av m m' h => by cases h) (fun av m r h => cm_Rdr_stepNumbers l h) KT_nd
theorem cw_Rdr_step : ab_cw y_Rdr_step prog_8_method_4_code 1 0 (some .boolean) := ⟨ab_gW_in 647 (by decide +kernel) rfl, ab_gW_in 65 (by decide +kernel) rfl, by decide +kernel, by decide +kernel, by decide +kernel⟩
theorem is_Rdr_step : Cond.instanceMethod y_Rdr_step ∈ ab_gW := ab_gW_in 645 (by decide +kernel) rfl
theorem sl_Rdr_step : Cond.selects "StreamTransport$Reader" y_Rdr_step y_Rdr_step ∈ ab_gW := ab_gW_in 646 (by decide +kernel) rfl
set_option maxRecDepth 100000 in
theorem cm_Rdr_step (l : Launch) {av : List AV} {m : Mm} {r : Int32 × Mm} (h0 : c_Rdr_step av m = some r) : ∃ (k q : Nat) (av' : List AV) (ci : Nat) (fs : List (Nat × Nat × Nat × Nat)) (z : vw_C), av = .inr (.inr (k, some q)) :: av' ∧ av'.length = 0 ∧ k ≠ 0 ∧ KT[k]? = some (.inl (ci, fs)) ∧ CL[ci]? = some z ∧ z.1 = "StreamTransport$Reader" ∧ ab_nos av' ∧ ab_Met l KT CL y_Rdr_step (Cond.code y_Rdr_step prog_8_method_4_code 1 (some .boolean) :: ab_gW) 4 88 none av m (some (.inl r.1)) r.2 := by
  obtain ⟨v0, hav, h⟩ := c_Rdr_step_inv h0
  rw [r_Rdr_step_eq] at h
  have hmo : ab_mo m r.2 := ab_kp_mo (kp_Rdr_step h0)
  subst hav
  exact ⟨_, _, _, _, _, _, rfl, rfl, by decide, rfl, rfl, rfl, (by intro v hv q e; subst e; simp at hv), ab_met (by decide +kernel) KT_0 KT_nd KT_k3 E_Rdr_step (cl_Rdr_step l) hmo (Nat.le_of_ble_eq_true rfl) (ab_rI_inv h) (fun v hv => by cases hv; exact ⟨_, rfl⟩)⟩
/-! StreamTransport$Reader.dataAt(I)I -/
def y_Rdr_dataAt : MethodName := ⟨"StreamTransport$Reader", "dataAt", "(I)I"⟩
def t_Rdr_dataAt (pc : Nat) : Option Ent :=
  bif Nat.blt pc 18 then
    (bif Nat.blt pc 7 then
      (bif Nat.blt pc 4 then
        (bif Nat.blt pc 1 then
          (bif Nat.beq pc 0 then some (.aload_n 0, 0, 0, 0, 0) else none)
        else
          bif Nat.beq pc 1 then some (.getfield 49, 6, 3, 0, 0) else none)
      else
        bif Nat.blt pc 5 then
          (bif Nat.beq pc 4 then some (.iload_n 1, 1, 0, 0, 0) else none)
        else
          bif Nat.blt pc 6 then
            (bif Nat.beq pc 5 then some (.iadd, 0, 0, 0, 0) else none)
          else
            bif Nat.beq pc 6 then some (.istore_n 2, 2, 0, 0, 0) else none)
    else
      bif Nat.blt pc 11 then
        (bif Nat.blt pc 8 then
          (bif Nat.beq pc 7 then some (.aload_n 0, 0, 0, 0, 0) else none)
        else
          bif Nat.beq pc 8 then some (.getfield 15, 6, 2, 1, 0) else none)
      else
        bif Nat.blt pc 14 then
          (bif Nat.beq pc 11 then some (.ifnull 25, 36, 0, 0, 0) else none)
        else
          bif Nat.blt pc 15 then
            (bif Nat.beq pc 14 then some (.iload_n 2, 2, 0, 0, 0) else none)
          else
            bif Nat.beq pc 15 then some (.ifCond .lt (21), 36, 0, 0, 0) else none)
  else
    bif Nat.blt pc 28 then
      (bif Nat.blt pc 21 then
        (bif Nat.blt pc 19 then
          (bif Nat.beq pc 18 then some (.iload_n 2, 2, 0, 0, 0) else none)
        else
          bif Nat.beq pc 19 then some (.bipush 40, 0, 0, 0, 40) else none)
      else
        bif Nat.blt pc 24 then
          (bif Nat.beq pc 21 then some (.if_icmp .ge (15), 36, 0, 0, 0) else none)
        else
          bif Nat.blt pc 25 then
            (bif Nat.beq pc 24 then some (.aload_n 0, 0, 0, 0, 0) else none)
          else
            bif Nat.beq pc 25 then some (.getfield 15, 6, 2, 1, 0) else none)
    else
      bif Nat.blt pc 33 then
        (bif Nat.blt pc 31 then
          (bif Nat.beq pc 28 then some (.getfield 55, 7, 0, 1, 0) else none)
        else
          bif Nat.blt pc 32 then
            (bif Nat.beq pc 31 then some (.iload_n 2, 2, 0, 0, 0) else none)
          else
            bif Nat.beq pc 32 then some (.iaload, 0, 0, 0, 0) else none)
      else
        bif Nat.blt pc 36 then
          (bif Nat.beq pc 33 then some (.goto 4, 37, 0, 0, 0) else none)
        else
          bif Nat.blt pc 37 then
            (bif Nat.beq pc 36 then some (.iconst (-1), 0, 0, 0, -1) else none)
          else
            bif Nat.beq pc 37 then some (.ireturn, 0, 0, 0, 0) else none
def i_Rdr_dataAt : Nat → Option Ent := ab_tab 38 t_Rdr_dataAt
def h_Rdr_dataAt (pc : Nat) : Nat × List Bool := (0, [])
def s_Rdr_dataAt (pc : Nat) : List (Int32 × Nat) × Nat := ([], 0)
noncomputable def eV_Rdr_dataAt : Nat → List AV → Mm → Option Mm := ab_ev []
noncomputable def eI_Rdr_dataAt : Nat → List AV → Mm → Option (Int32 × Mm) := ab_ev []
noncomputable def b_Rdr_dataAt_0 (f : Nat) (v0 : Nat) (v1 : Int32) (m : Mm) : Option Rs := ab_ex KT none s_Rdr_dataAt eV_Rdr_dataAt eI_Rdr_dataAt i_Rdr_dataAt h_Rdr_dataAt f 0 [some (.inr (.inr (10, some v0))), some (.inl v1), none] [] m
set_option maxRecDepth 100000 in
set_option maxHeartbeats 4000000 in
theorem b_Rdr_dataAt_0_eq (f : Nat) (v0 : Nat) (v1 : Int32) (m : Mm) : b_Rdr_dataAt_0 (f + 1) v0 v1 m =
    ab_let (((m.1 35 v0 0) + v1)) fun x1 =>
    Option.elim (m.2.2.1 34 v0 0)
      (some (.inl (some (.inl (-1 : Int32)), m)))
      (fun _ => if x1 < 0 then
        some (.inl (some (.inl (-1 : Int32)), m))
      else
        if (40 : Int32) ≤ x1 then
          some (.inl (some (.inl (-1 : Int32)), m))
        else
          (m.2.2.1 34 v0 0).bind fun q2 =>
            (ab_ix x1 40).bind fun i3 =>
          some (.inl (some (.inl (m.1 13 (q2 + 1) i3)), m))) := rfl
noncomputable def r_Rdr_dataAt : Nat → Int32 → Mm → Option (Int32 × Mm) := ab_seal fun v0 v1 m => ab_rI (b_Rdr_dataAt_0 50000 v0 v1 m)
theorem r_Rdr_dataAt_eq (v0 : Nat) (v1 : Int32) (m : Mm) : r_Rdr_dataAt v0 v1 m = ab_rI (b_Rdr_dataAt_0 50000 v0 v1 m) := by
  unfold r_Rdr_dataAt
  rw [ab_seal_eq]
noncomputable def c_Rdr_dataAt : List AV → Mm → Option (Int32 × Mm) := fun av m => match av with
  | [.inr (.inr (kv0, ov0)), .inl v1] => if kv0 = 10 then (ov0.bind fun v0 => r_Rdr_dataAt v0 v1 m) else none
  | _ => none
theorem c_Rdr_dataAt_inv {av : List AV} {m : Mm} {r : Int32 × Mm} (h : c_Rdr_dataAt av m = some r) : ∃ (v0 : Nat) (v1 : Int32), av = [.inr (.inr (10, some v0)), .inl v1] ∧ r_Rdr_dataAt v0 v1 m = some r := by
  unfold c_Rdr_dataAt at h
  split at h
  · rename_i kv0 ov0 v1
    by_cases hkv0 : kv0 = 10
    case neg => rw [if_neg hkv0] at h; cases h
    rw [if_pos hkv0] at h
    subst hkv0
    obtain ⟨v0, hev0, h⟩ := Option.bind_eq_some_iff.mp h
    subst hev0
    exact ⟨v0, v1, rfl, h⟩
  · cases h
def cs_Rdr_dataAt : List Nat := []
set_option maxRecDepth 100000 in
theorem E_Rdr_dataAt : ∀ (pc : Nat) (q : Ent), i_Rdr_dataAt pc = some q → ab_E KT CL ab_gW "StreamTransport$Reader" "dataAt" (some .int) prog_8_method_10_code s_Rdr_dataAt 3 pc q.1 q.2.1 q.2.2.1 q.2.2.2.1 q.2.2.2.2 := fun pc q hq =>
  ab_Eb_ok lc_Rdr lj_Rdr fl_Rdr (fpn_Rdr "dataAt") nw_Rdr na_Rdr nq_Rdr (ab_tab_all (t := t_Rdr_dataAt) (chk := fun pc q => ab_Eb (some .int) prog_8_method_10_code s_Rdr_dataAt 3 LC_Rdr LJ_Rdr FL_Rdr FPn_Rdr NW_Rdr NA_Rdr NQ_Rdr pc q.1 q.2.1 q.2.2.1 q.2.2.2.1 q.2.2.2.2) (by decide +kernel) hq)
set_option maxRecDepth 100000 in
theorem kp_Rdr_dataAt {av : List AV} {m : Mm} {r : Int32 × Mm} (h : c_Rdr_dataAt av m = some r) : ab_kp m r.2 := by
  obtain ⟨v0, v1, -, h⟩ := c_Rdr_dataAt_inv h
  rw [r_Rdr_dataAt_eq] at h
  have hV : ∀ a av m m', eV_Rdr_dataAt a av m = some m' → ab_kp m m' := ab_ev_all (P := fun _ m r => ab_kp m r) [] (fun q hq => by cases hq)
  have hI : ∀ a av m q, eI_Rdr_dataAt a av m = some q → ab_kp m q.2 := ab_ev_all (P := fun _ (m : Mm) (r : Int32 × Mm) => ab_kp m r.2) [] (fun q hq => by cases hq)
  exact ab_kprel (ρ := .inl (some (.inl r.1), r.2)) (ab_tab_isn (t := t_Rdr_dataAt) (by decide +kernel)) hV hI (ab_rI_inv h)
set_option maxRecDepth 100000 in
theorem cl_Rdr_dataAt (l : Launch) : ∀ (pc : Nat) (q : Ent), i_Rdr_dataAt pc = some q → ab_inv q.1 = true → ab_CR l KT CL none ab_gW "StreamTransport$Reader" prog_8_method_10_code 3 0 0 eV_Rdr_dataAt eI_Rdr_dataAt pc q := by
  intro pc q hq hi
  have hm : pc ∈ cs_Rdr_dataAt := ab_tab_cs (t := t_Rdr_dataAt) (by decide +kernel) hq hi
  cases hm
theorem cw_Rdr_dataAt : ab_cw y_Rdr_dataAt prog_8_method_10_code 3 1 (some .int) := ⟨ab_gW_in 722 (by decide +kernel) rfl, ab_gW_in 65 (by decide +kernel) rfl, by decide +kernel, by decide +kernel, by decide +kernel⟩
theorem is_Rdr_dataAt : Cond.instanceMethod y_Rdr_dataAt ∈ ab_gW := ab_gW_in 720 (by decide +kernel) rfl
theorem sl_Rdr_dataAt : Cond.selects "StreamTransport$Reader" y_Rdr_dataAt y_Rdr_dataAt ∈ ab_gW := ab_gW_in 721 (by decide +kernel) rfl
set_option maxRecDepth 100000 in
theorem cm_Rdr_dataAt (l : Launch) {av : List AV} {m : Mm} {r : Int32 × Mm} (h0 : c_Rdr_dataAt av m = some r) : ∃ (k q : Nat) (av' : List AV) (ci : Nat) (fs : List (Nat × Nat × Nat × Nat)) (z : vw_C), av = .inr (.inr (k, some q)) :: av' ∧ av'.length = 1 ∧ k ≠ 0 ∧ KT[k]? = some (.inl (ci, fs)) ∧ CL[ci]? = some z ∧ z.1 = "StreamTransport$Reader" ∧ ab_nos av' ∧ ab_Met l KT CL y_Rdr_dataAt (Cond.code y_Rdr_dataAt prog_8_method_10_code 3 (some .int) :: ab_gW) 0 0 none av m (some (.inl r.1)) r.2 := by
  obtain ⟨v0, v1, hav, h⟩ := c_Rdr_dataAt_inv h0
  rw [r_Rdr_dataAt_eq] at h
  have hmo : ab_mo m r.2 := ab_kp_mo (kp_Rdr_dataAt h0)
  subst hav
  exact ⟨_, _, _, _, _, _, rfl, rfl, by decide, rfl, rfl, rfl, (by intro v hv q e; subst e; simp at hv), ab_met (by decide +kernel) KT_0 KT_nd KT_k3 E_Rdr_dataAt (cl_Rdr_dataAt l) hmo (Nat.le_of_ble_eq_true rfl) (ab_rI_inv h) (fun v hv => by cases hv; exact ⟨_, rfl⟩)⟩
end
