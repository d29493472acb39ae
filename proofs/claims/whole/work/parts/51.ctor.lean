section
/-! StreamTransport$Row.<init>()V -/
def y_Row_init : MethodName := ⟨"StreamTransport$Row", "<init>", "()V"⟩
def t_Row_init (pc : Nat) : Option Ent :=
  bif Nat.blt pc 5 then
    (bif Nat.blt pc 1 then
      (bif Nat.beq pc 0 then some (.aload_n 0, 0, 0, 0, 0) else none)
    else
      bif Nat.blt pc 4 then
        (bif Nat.beq pc 1 then some (.invokespecial 3, 0, 1, 0, 0) else none)
      else
        bif Nat.beq pc 4 then some (.aload_n 0, 0, 0, 0, 0) else none)
  else
    bif Nat.blt pc 9 then
      (bif Nat.blt pc 7 then
        (bif Nat.beq pc 5 then some (.bipush 40, 0, 0, 0, 40) else none)
      else
        bif Nat.beq pc 7 then some (.newarray .int, 5, 0, 0, 0) else none)
    else
      bif Nat.blt pc 12 then
        (bif Nat.beq pc 9 then some (.putfield 9, 7, 0, 1, 0) else none)
      else
        bif Nat.beq pc 12 then some (.return_, 0, 0, 0, 0) else none
def i_Row_init : Nat → Option Ent := ab_tab 13 t_Row_init
def h_Row_init (pc : Nat) : Nat × List Bool := (0, [])
def s_Row_init (pc : Nat) : List (Int32 × Nat) × Nat := ([], 0)
noncomputable def eV_Row_init : Nat → List AV → Mm → Option Mm := ab_ev [(0, c_O)]
noncomputable def eI_Row_init : Nat → List AV → Mm → Option (Int32 × Mm) := ab_ev []
noncomputable def b_Row_init_0 (f : Nat) (v0 : Nat) (m : Mm) : Option Rs := ab_ex KT none s_Row_init eV_Row_init eI_Row_init i_Row_init h_Row_init f 0 [some (.inr (.inr (72, some v0)))] [] m
set_option maxRecDepth 100000 in
set_option maxHeartbeats 4000000 in
theorem b_Row_init_0_eq (f : Nat) (v0 : Nat) (m : Mm) : b_Row_init_0 (f + 1) v0 m =
    if (40 : Int32) = Int32.ofNat 40 then
    ab_let m.2.2.2.1.length fun n2 =>
    ab_let (ab_ap m 5) fun m1 =>
    ab_let (ab_uR m1 10 v0 0 (some n2)) fun m3 =>
    some (.inl (none, m3))
    else none := rfl
noncomputable def r_Row_init : Nat → Mm → Option Mm := ab_seal fun v0 m => ab_rV (b_Row_init_0 50000 v0 m)
theorem r_Row_init_eq (v0 : Nat) (m : Mm) : r_Row_init v0 m = ab_rV (b_Row_init_0 50000 v0 m) := by
  unfold r_Row_init
  rw [ab_seal_eq]
noncomputable def c_Row_init : List AV → Mm → Option Mm := fun av m => match av with
  | [.inr (.inr (kv0, ov0))] => if kv0 = 72 then (ov0.bind fun v0 => r_Row_init v0 m) else none
  | _ => none
theorem c_Row_init_inv {av : List AV} {m : Mm} {r : Mm} (h : c_Row_init av m = some r) : ∃ (v0 : Nat), av = [.inr (.inr (72, some v0))] ∧ r_Row_init v0 m = some r := by
  unfold c_Row_init at h
  split at h
  · rename_i kv0 ov0
    by_cases hkv0 : kv0 = 72
    case neg => rw [if_neg hkv0] at h; cases h
    rw [if_pos hkv0] at h
    subst hkv0
    obtain ⟨v0, hev0, h⟩ := Option.bind_eq_some_iff.mp h
    subst hev0
    exact ⟨v0, rfl, h⟩
  · cases h
def cs_Row_init : List Nat := [1]
set_option maxRecDepth 100000 in
theorem E_Row_init : ∀ (pc : Nat) (q : Ent), i_Row_init pc = some q → ab_E KT CL ab_gW "StreamTransport$Row" "<init>" none prog_9_method_1_code s_Row_init 1 pc q.1 q.2.1 q.2.2.1 q.2.2.2.1 q.2.2.2.2 := fun pc q hq =>
  ab_Eb_ok lc_Row lj_Row fl_Row fpi_Row nw_Row na_Row nq_Row (ab_tab_all (t := t_Row_init) (chk := fun pc q => ab_Eb none prog_9_method_1_code s_Row_init 1 LC_Row LJ_Row FL_Row FPi_Row NW_Row NA_Row NQ_Row pc q.1 q.2.1 q.2.2.1 q.2.2.2.1 q.2.2.2.2) (by decide +kernel) hq)
set_option maxRecDepth 100000 in
theorem mo_Row_init {av : List AV} {m : Mm} {r : Mm} (h : c_Row_init av m = some r) : ab_mo m r := by
  obtain ⟨v0, -, h⟩ := c_Row_init_inv h
  rw [r_Row_init_eq] at h
  have hV : ∀ a av m m', eV_Row_init a av m = some m' → ab_mo m m' := ab_ev_all (P := fun _ m r => ab_mo m r) [(0, c_O)] (List.forall_mem_cons.mpr ⟨fun av m r h => ab_kp_mo (kp_O h), fun q hq => by cases hq⟩)
  have hI : ∀ a av m q, eI_Row_init a av m = some q → ab_mo m q.2 := ab_ev_all (P := fun _ (m : Mm) (r : Int32 × Mm) => ab_mo m r.2) [] (fun q hq => by cases hq)
  exact ab_morel (ρ := .inl (none, r)) hV hI (ab_rV_inv h)
set_option maxRecDepth 100000 in
theorem cl_Row_init (l : Launch) : ∀ (pc : Nat) (q : Ent), i_Row_init pc = some q → ab_inv q.1 = true → ab_CR l KT CL none ab_gW "StreamTransport$Row" prog_9_method_1_code 1 1 20 eV_Row_init eI_Row_init pc q := by
  intro pc q hq hi
  have hm : pc ∈ cs_Row_init := ab_tab_cs (t := t_Row_init) (by decide +kernel) hq hi
  simp only [cs_Row_init, List.mem_cons, List.not_mem_nil, or_false] at hm
  rcases hm with rfl
  · cases (Option.some.inj hq : ((.invokespecial 3, 0, 1, 0, 0) : Ent) = q)
    exact ab_crO (by decide +kernel) (ab_gW_in 98 (by decide +kernel) rfl) ab_oI ab_oC (by decide) (by decide) (fun av m m' h => c_O_inv h) (fun av m => rfl)
theorem cw_Row_init : ab_cw y_Row_init prog_9_method_1_code 1 0 none := ⟨ab_gW_in 97 (by decide +kernel) rfl, ab_gW_in 62 (by decide +kernel) rfl, by decide +kernel, by decide +kernel, by decide +kernel⟩
theorem is_Row_init : Cond.instanceMethod y_Row_init ∈ ab_gW := ab_gW_in 96 (by decide +kernel) rfl
set_option maxRecDepth 100000 in
theorem cm_Row_init (l : Launch) {av : List AV} {m : Mm} {r : Mm} (h0 : c_Row_init av m = some r) : ∃ (k q : Nat) (av' : List AV), av = .inr (.inr (k, some q)) :: av' ∧ av'.length = 0 ∧ k ≠ 0 ∧ ab_nos av' ∧ ab_Met l KT CL y_Row_init (Cond.code y_Row_init prog_9_method_1_code 1 none :: ab_gW) 1 20 none av m none r := by
  obtain ⟨v0, hav, h⟩ := c_Row_init_inv h0
  rw [r_Row_init_eq] at h
  have hmo : ab_mo m r := mo_Row_init h0
  subst hav
  exact ⟨_, _, _, rfl, rfl, by decide, (by intro v hv q e; subst e; simp at hv), ab_met (by decide +kernel) KT_0 KT_nd KT_k3 E_Row_init (cl_Row_init l) hmo (Nat.le_of_ble_eq_true rfl) (ab_rV_inv h) (fun v hv => by cases hv)⟩
/-! StreamTransport$Numbers.<init>()V -/
def y_Num_init : MethodName := ⟨"StreamTransport$Numbers", "<init>", "()V"⟩
def t_Num_init (pc : Nat) : Option Ent :=
  bif Nat.blt pc 10 then
    (bif Nat.blt pc 4 then
      (bif Nat.blt pc 1 then
        (bif Nat.beq pc 0 then some (.aload_n 0, 0, 0, 0, 0) else none)
      else
        bif Nat.beq pc 1 then some (.invokespecial 3, 0, 1, 0, 0) else none)
    else
      bif Nat.blt pc 5 then
        (bif Nat.beq pc 4 then some (.aload_n 0, 0, 0, 0, 0) else none)
      else
        bif Nat.blt pc 8 then
          (bif Nat.beq pc 5 then some (.sipush 320, 0, 0, 0, 320) else none)
        else
          bif Nat.beq pc 8 then some (.newarray .int, 9, 0, 0, 0) else none)
  else
    bif Nat.blt pc 14 then
      (bif Nat.blt pc 13 then
        (bif Nat.beq pc 10 then some (.putfield 9, 3, 0, 1, 0) else none)
      else
        bif Nat.beq pc 13 then some (.aload_n 0, 0, 0, 0, 0) else none)
    else
      bif Nat.blt pc 15 then
        (bif Nat.beq pc 14 then some (.iconst (-1), 0, 0, 0, -1) else none)
      else
        bif Nat.blt pc 18 then
          (bif Nat.beq pc 15 then some (.putfield 15, 3, 1, 0, 0) else none)
        else
          bif Nat.beq pc 18 then some (.return_, 0, 0, 0, 0) else none
def i_Num_init : Nat → Option Ent := ab_tab 19 t_Num_init
def h_Num_init (pc : Nat) : Nat × List Bool := (0, [])
def s_Num_init (pc : Nat) : List (Int32 × Nat) × Nat := ([], 0)
noncomputable def eV_Num_init : Nat → List AV → Mm → Option Mm := ab_ev [(0, c_O)]
noncomputable def eI_Num_init : Nat → List AV → Mm → Option (Int32 × Mm) := ab_ev []
noncomputable def b_Num_init_0 (f : Nat) (v0 : Nat) (m : Mm) : Option Rs := ab_ex KT none s_Num_init eV_Num_init eI_Num_init i_Num_init h_Num_init f 0 [some (.inr (.inr (74, some v0)))] [] m
set_option maxRecDepth 100000 in
set_option maxHeartbeats 4000000 in
theorem b_Num_init_0_eq (f : Nat) (v0 : Nat) (m : Mm) : b_Num_init_0 (f + 1) v0 m =
    if (320 : Int32) = Int32.ofNat 320 then
    ab_let m.2.2.2.1.length fun n2 =>
    ab_let (ab_ap m 9) fun m1 =>
    ab_let (ab_uR m1 29 v0 0 (some n2)) fun m3 =>
    ab_let (ab_uI m3 30 v0 0 (-1 : Int32)) fun m4 =>
    some (.inl (none, m4))
    else none := rfl
noncomputable def r_Num_init : Nat → Mm → Option Mm := ab_seal fun v0 m => ab_rV (b_Num_init_0 50000 v0 m)
theorem r_Num_init_eq (v0 : Nat) (m : Mm) : r_Num_init v0 m = ab_rV (b_Num_init_0 50000 v0 m) := by
  unfold r_Num_init
  rw [ab_seal_eq]
noncomputable def c_Num_init : List AV → Mm → Option Mm := fun av m => match av with
  | [.inr (.inr (kv0, ov0))] => if kv0 = 74 then (ov0.bind fun v0 => r_Num_init v0 m) else none
  | _ => none
theorem c_Num_init_inv {av : List AV} {m : Mm} {r : Mm} (h : c_Num_init av m = some r) : ∃ (v0 : Nat), av = [.inr (.inr (74, some v0))] ∧ r_Num_init v0 m = some r := by
  unfold c_Num_init at h
  split at h
  · rename_i kv0 ov0
    by_cases hkv0 : kv0 = 74
    case neg => rw [if_neg hkv0] at h; cases h
    rw [if_pos hkv0] at h
    subst hkv0
    obtain ⟨v0, hev0, h⟩ := Option.bind_eq_some_iff.mp h
    subst hev0
    exact ⟨v0, rfl, h⟩
  · cases h
def cs_Num_init : List Nat := [1]
set_option maxRecDepth 100000 in
theorem E_Num_init : ∀ (pc : Nat) (q : Ent), i_Num_init pc = some q → ab_E KT CL ab_gW "StreamTransport$Numbers" "<init>" none prog_5_method_1_code s_Num_init 1 pc q.1 q.2.1 q.2.2.1 q.2.2.2.1 q.2.2.2.2 := fun pc q hq =>
  ab_Eb_ok lc_Num lj_Num fl_Num fpi_Num nw_Num na_Num nq_Num (ab_tab_all (t := t_Num_init) (chk := fun pc q => ab_Eb none prog_5_method_1_code s_Num_init 1 LC_Num LJ_Num FL_Num FPi_Num NW_Num NA_Num NQ_Num pc q.1 q.2.1 q.2.2.1 q.2.2.2.1 q.2.2.2.2) (by decide +kernel) hq)
set_option maxRecDepth 100000 in
theorem mo_Num_init {av : List AV} {m : Mm} {r : Mm} (h : c_Num_init av m = some r) : ab_mo m r := by
  obtain ⟨v0, -, h⟩ := c_Num_init_inv h
  rw [r_Num_init_eq] at h
  have hV : ∀ a av m m', eV_Num_init a av m = some m' → ab_mo m m' := ab_ev_all (P := fun _ m r => ab_mo m r) [(0, c_O)] (List.forall_mem_cons.mpr ⟨fun av m r h => ab_kp_mo (kp_O h), fun q hq => by cases hq⟩)
  have hI : ∀ a av m q, eI_Num_init a av m = some q → ab_mo m q.2 := ab_ev_all (P := fun _ (m : Mm) (r : Int32 × Mm) => ab_mo m r.2) [] (fun q hq => by cases hq)
  exact ab_morel (ρ := .inl (none, r)) hV hI (ab_rV_inv h)
set_option maxRecDepth 100000 in
theorem cl_Num_init (l : Launch) : ∀ (pc : Nat) (q : Ent), i_Num_init pc = some q → ab_inv q.1 = true → ab_CR l KT CL none ab_gW "StreamTransport$Numbers" prog_5_method_1_code 1 1 20 eV_Num_init eI_Num_init pc q := by
  intro pc q hq hi
  have hm : pc ∈ cs_Num_init := ab_tab_cs (t := t_Num_init) (by decide +kernel) hq hi
  simp only [cs_Num_init, List.mem_cons, List.not_mem_nil, or_false] at hm
  rcases hm with rfl
  · cases (Option.some.inj hq : ((.invokespecial 3, 0, 1, 0, 0) : Ent) = q)
    exact ab_crO (by decide +kernel) (ab_gW_in 126 (by decide +kernel) rfl) ab_oI ab_oC (by decide) (by decide) (fun av m m' h => c_O_inv h) (fun av m => rfl)
theorem cw_Num_init : ab_cw y_Num_init prog_5_method_1_code 1 0 none := ⟨ab_gW_in 125 (by decide +kernel) rfl, ab_gW_in 64 (by decide +kernel) rfl, by decide +kernel, by decide +kernel, by decide +kernel⟩
theorem is_Num_init : Cond.instanceMethod y_Num_init ∈ ab_gW := ab_gW_in 124 (by decide +kernel) rfl
set_option maxRecDepth 100000 in
theorem cm_Num_init (l : Launch) {av : List AV} {m : Mm} {r : Mm} (h0 : c_Num_init av m = some r) : ∃ (k q : Nat) (av' : List AV), av = .inr (.inr (k, some q)) :: av' ∧ av'.length = 0 ∧ k ≠ 0 ∧ ab_nos av' ∧ ab_Met l KT CL y_Num_init (Cond.code y_Num_init prog_5_method_1_code 1 none :: ab_gW) 1 20 none av m none r := by
  obtain ⟨v0, hav, h⟩ := c_Num_init_inv h0
  rw [r_Num_init_eq] at h
  have hmo : ab_mo m r := mo_Num_init h0
  subst hav
  exact ⟨_, _, _, rfl, rfl, by decide, (by intro v hv q e; subst e; simp at hv), ab_met (by decide +kernel) KT_0 KT_nd KT_k3 E_Num_init (cl_Num_init l) hmo (Nat.le_of_ble_eq_true rfl) (ab_rV_inv h) (fun v hv => by cases hv)⟩
/-! StreamTransport$Reader.<init>()V -/
def y_Rdr_init : MethodName := ⟨"StreamTransport$Reader", "<init>", "()V"⟩
def t_Rdr_init (pc : Nat) : Option Ent :=
  bif Nat.blt pc 5 then
    (bif Nat.blt pc 1 then
      (bif Nat.beq pc 0 then some (.aload_n 0, 0, 0, 0, 0) else none)
    else
      bif Nat.blt pc 4 then
        (bif Nat.beq pc 1 then some (.invokespecial 3, 0, 1, 0, 0) else none)
      else
        bif Nat.beq pc 4 then some (.aload_n 0, 0, 0, 0, 0) else none)
  else
    bif Nat.blt pc 9 then
      (bif Nat.blt pc 7 then
        (bif Nat.beq pc 5 then some (.bipush 7, 0, 0, 0, 7) else none)
      else
        bif Nat.beq pc 7 then some (.newarray .int, 11, 0, 0, 0) else none)
    else
      bif Nat.blt pc 12 then
        (bif Nat.beq pc 9 then some (.putfield 9, 6, 0, 1, 0) else none)
      else
        bif Nat.beq pc 12 then some (.return_, 0, 0, 0, 0) else none
def i_Rdr_init : Nat → Option Ent := ab_tab 13 t_Rdr_init
def h_Rdr_init (pc : Nat) : Nat × List Bool := (0, [])
def s_Rdr_init (pc : Nat) : List (Int32 × Nat) × Nat := ([], 0)
noncomputable def eV_Rdr_init : Nat → List AV → Mm → Option Mm := ab_ev [(0, c_O)]
noncomputable def eI_Rdr_init : Nat → List AV → Mm → Option (Int32 × Mm) := ab_ev []
noncomputable def b_Rdr_init_0 (f : Nat) (v0 : Nat) (m : Mm) : Option Rs := ab_ex KT none s_Rdr_init eV_Rdr_init eI_Rdr_init i_Rdr_init h_Rdr_init f 0 [some (.inr (.inr (75, some v0)))] [] m
set_option maxRecDepth 100000 in
set_option maxHeartbeats 4000000 in
theorem b_Rdr_init_0_eq (f : Nat) (v0 : Nat) (m : Mm) : b_Rdr_init_0 (f + 1) v0 m =
    if (7 : Int32) = Int32.ofNat 7 then
    ab_let m.2.2.2.1.length fun n2 =>
    ab_let (ab_ap m 11) fun m1 =>
    ab_let (ab_uR m1 32 v0 0 (some n2)) fun m3 =>
    some (.inl (none, m3))
    else none := rfl
noncomputable def r_Rdr_init : Nat → Mm → Option Mm := ab_seal fun v0 m => ab_rV (b_Rdr_init_0 50000 v0 m)
theorem r_Rdr_init_eq (v0 : Nat) (m : Mm) : r_Rdr_init v0 m = ab_rV (b_Rdr_init_0 50000 v0 m) := by
  unfold r_Rdr_init
  rw [ab_seal_eq]
noncomputable def c_Rdr_init : List AV → Mm → Option Mm := fun av m => match av with
  | [.inr (.inr (kv0, ov0))] => if kv0 = 75 then (ov0.bind fun v0 => r_Rdr_init v0 m) else none
  | _ => none
theorem c_Rdr_init_inv {av : List AV} {m : Mm} {r : Mm} (h : c_Rdr_init av m = some r) : ∃ (v0 : Nat), av = [.inr (.inr (75, some v0))] ∧ r_Rdr_init v0 m = some r := by
  unfold c_Rdr_init at h
  split at h
  · rename_i kv0 ov0
    by_cases hkv0 : kv0 = 75
    case neg => rw [if_neg hkv0] at h; cases h
    rw [if_pos hkv0] at h
    subst hkv0
    obtain ⟨v0, hev0, h⟩ := Option.bind_eq_some_iff.mp h
    subst hev0
    exact ⟨v0, rfl, h⟩
  · cases h
def cs_Rdr_init : List Nat := [1]
set_option maxRecDepth 100000 in
theorem E_Rdr_init : ∀ (pc : Nat) (q : Ent), i_Rdr_init pc = some q → ab_E KT CL ab_gW "StreamTransport$Reader" "<init>" none prog_8_method_1_code s_Rdr_init 1 pc q.1 q.2.1 q.2.2.1 q.2.2.2.1 q.2.2.2.2 := fun pc q hq =>
  ab_Eb_ok lc_Rdr lj_Rdr fl_Rdr fpi_Rdr nw_Rdr na_Rdr nq_Rdr (ab_tab_all (t := t_Rdr_init) (chk := fun pc q => ab_Eb none prog_8_method_1_code s_Rdr_init 1 LC_Rdr LJ_Rdr FL_Rdr FPi_Rdr NW_Rdr NA_Rdr NQ_Rdr pc q.1 q.2.1 q.2.2.1 q.2.2.2.1 q.2.2.2.2) (by decide +kernel) hq)
set_option maxRecDepth 100000 in
theorem mo_Rdr_init {av : List AV} {m : Mm} {r : Mm} (h : c_Rdr_init av m = some r) : ab_mo m r := by
  obtain ⟨v0, -, h⟩ := c_Rdr_init_inv h
  rw [r_Rdr_init_eq] at h
  have hV : ∀ a av m m', eV_Rdr_init a av m = some m' → ab_mo m m' := ab_ev_all (P := fun _ m r => ab_mo m r) [(0, c_O)] (List.forall_mem_cons.mpr ⟨fun av m r h => ab_kp_mo (kp_O h), fun q hq => by cases hq⟩)
  have hI : ∀ a av m q, eI_Rdr_init a av m = some q → ab_mo m q.2 := ab_ev_all (P := fun _ (m : Mm) (r : Int32 × Mm) => ab_mo m r.2) [] (fun q hq => by cases hq)
  exact ab_morel (ρ := .inl (none, r)) hV hI (ab_rV_inv h)
set_option maxRecDepth 100000 in
theorem cl_Rdr_init (l : Launch) : ∀ (pc : Nat) (q : Ent), i_Rdr_init pc = some q → ab_inv q.1 = true → ab_CR l KT CL none ab_gW "StreamTransport$Reader" prog_8_method_1_code 1 1 20 eV_Rdr_init eI_Rdr_init pc q := by
  intro pc q hq hi
  have hm : pc ∈ cs_Rdr_init := ab_tab_cs (t := t_Rdr_init) (by decide +kernel) hq hi
  simp only [cs_Rdr_init, List.mem_cons, List.not_mem_nil, or_false] at hm
  rcases hm with rfl
  · cases (Option.some.inj hq : ((.invokespecial 3, 0, 1, 0, 0) : Ent) = q)
    exact ab_crO (by decide +kernel) (ab_gW_in 141 (by decide +kernel) rfl) ab_oI ab_oC (by decide) (by decide) (fun av m m' h => c_O_inv h) (fun av m => rfl)
theorem cw_Rdr_init : ab_cw y_Rdr_init prog_8_method_1_code 1 0 none := ⟨ab_gW_in 140 (by decide +kernel) rfl, ab_gW_in 65 (by decide +kernel) rfl, by decide +kernel, by decide +kernel, by decide +kernel⟩
theorem is_Rdr_init : Cond.instanceMethod y_Rdr_init ∈ ab_gW := ab_gW_in 139 (by decide +kernel) rfl
set_option maxRecDepth 100000 in
theorem cm_Rdr_init (l : Launch) {av : List AV} {m : Mm} {r : Mm} (h0 : c_Rdr_init av m = some r) : ∃ (k q : Nat) (av' : List AV), av = .inr (.inr (k, some q)) :: av' ∧ av'.length = 0 ∧ k ≠ 0 ∧ ab_nos av' ∧ ab_Met l KT CL y_Rdr_init (Cond.code y_Rdr_init prog_8_method_1_code 1 none :: ab_gW) 1 20 none av m none r := by
  obtain ⟨v0, hav, h⟩ := c_Rdr_init_inv h0
  rw [r_Rdr_init_eq] at h
  have hmo : ab_mo m r := mo_Rdr_init h0
  subst hav
  exact ⟨_, _, _, rfl, rfl, by decide, (by intro v hv q e; subst e; simp at hv), ab_met (by decide +kernel) KT_0 KT_nd KT_k3 E_Rdr_init (cl_Rdr_init l) hmo (Nat.le_of_ble_eq_true rfl) (ab_rV_inv h) (fun v hv => by cases hv)⟩
/-! StreamTransport$Incoming.<init>(I)V -/
def y_Inc_init : MethodName := ⟨"StreamTransport$Incoming", "<init>", "(I)V"⟩
def t_Inc_init (pc : Nat) : Option Ent :=
  bif Nat.blt pc 14 then
    (bif Nat.blt pc 7 then
      (bif Nat.blt pc 4 then
        (bif Nat.blt pc 1 then
          (bif Nat.beq pc 0 then some (.aload_n 0, 0, 0, 0, 0) else none)
        else
          bif Nat.beq pc 1 then some (.invokespecial 3, 0, 1, 0, 0) else none)
      else
        bif Nat.blt pc 5 then
          (bif Nat.beq pc 4 then some (.aload_n 0, 0, 0, 0, 0) else none)
        else
          bif Nat.beq pc 5 then some (.bipush 64, 0, 0, 0, 64) else none)
    else
      bif Nat.blt pc 12 then
        (bif Nat.blt pc 9 then
          (bif Nat.beq pc 7 then some (.newarray .int, 16, 0, 0, 0) else none)
        else
          bif Nat.beq pc 9 then some (.putfield 9, 1, 0, 1, 0) else none)
      else
        bif Nat.blt pc 13 then
          (bif Nat.beq pc 12 then some (.aload_n 0, 0, 0, 0, 0) else none)
        else
          bif Nat.beq pc 13 then some (.iconst (-1), 0, 0, 0, -1) else none)
  else
    bif Nat.blt pc 22 then
      (bif Nat.blt pc 18 then
        (bif Nat.blt pc 17 then
          (bif Nat.beq pc 14 then some (.putfield 15, 1, 3, 0, 0) else none)
        else
          bif Nat.beq pc 17 then some (.aload_n 0, 0, 0, 0, 0) else none)
      else
        bif Nat.blt pc 19 then
          (bif Nat.beq pc 18 then some (.iload_n 1, 1, 0, 0, 0) else none)
        else
          bif Nat.beq pc 19 then some (.putfield 19, 1, 4, 0, 0) else none)
    else
      bif Nat.blt pc 26 then
        (bif Nat.blt pc 23 then
          (bif Nat.beq pc 22 then some (.aload_n 0, 0, 0, 0, 0) else none)
        else
          bif Nat.beq pc 23 then some (.getfield 9, 1, 0, 1, 0) else none)
      else
        bif Nat.blt pc 27 then
          (bif Nat.beq pc 26 then some (.iconst (-1), 0, 0, 0, -1) else none)
        else
          bif Nat.blt pc 30 then
            (bif Nat.beq pc 27 then some (.invokestatic 22, 155, 2, 0, 0) else none)
          else
            bif Nat.beq pc 30 then some (.return_, 0, 0, 0, 0) else none
def i_Inc_init : Nat → Option Ent := ab_tab 31 t_Inc_init
def h_Inc_init (pc : Nat) : Nat × List Bool := (0, [])
def s_Inc_init (pc : Nat) : List (Int32 × Nat) × Nat := ([], 0)
noncomputable def eV_Inc_init : Nat → List AV → Mm → Option Mm := ab_ev [(0, c_O), (155, c_Arr_fill_IncB)]
noncomputable def eI_Inc_init : Nat → List AV → Mm → Option (Int32 × Mm) := ab_ev []
noncomputable def b_Inc_init_0 (f : Nat) (v0 : Nat) (v1 : Int32) (m : Mm) : Option Rs := ab_ex KT none s_Inc_init eV_Inc_init eI_Inc_init i_Inc_init h_Inc_init f 0 [some (.inr (.inr (78, some v0))), some (.inl v1)] [] m
set_option maxRecDepth 100000 in
set_option maxHeartbeats 4000000 in
theorem b_Inc_init_0_eq (f : Nat) (v0 : Nat) (v1 : Int32) (m : Mm) : b_Inc_init_0 (f + 1) v0 v1 m =
    if (64 : Int32) = Int32.ofNat 64 then
    ab_let m.2.2.2.1.length fun n2 =>
    ab_let (ab_ap m 16) fun m1 =>
    ab_let (ab_uR m1 46 v0 0 (some n2)) fun m3 =>
    ab_let (ab_uI m3 49 v0 0 (-1 : Int32)) fun m4 =>
    ab_let (ab_uI m4 50 v0 0 v1) fun m5 =>
    ((m5.2.2.1 46 v0 0).bind fun q6 => r_Arr_fill_IncB q6 (-1 : Int32) m5).bind fun m7 =>
    some (.inl (none, m7))
    else none := rfl
noncomputable def r_Inc_init : Nat → Int32 → Mm → Option Mm := ab_seal fun v0 v1 m => ab_rV (b_Inc_init_0 50000 v0 v1 m)
theorem r_Inc_init_eq (v0 : Nat) (v1 : Int32) (m : Mm) : r_Inc_init v0 v1 m = ab_rV (b_Inc_init_0 50000 v0 v1 m) := by
  unfold r_Inc_init
  rw [ab_seal_eq]
noncomputable def c_Inc_init : List AV → Mm → Option Mm := fun av m => match av with
  | [.inr (.inr (kv0, ov0)), .inl v1] => if kv0 = 78 then (ov0.bind fun v0 => r_Inc_init v0 v1 m) else none
  | _ => none
theorem c_Inc_init_inv {av : List AV} {m : Mm} {r : Mm} (h : c_Inc_init av m = some r) : ∃ (v0 : Nat) (v1 : Int32), av = [.inr (.inr (78, some v0)), .inl v1] ∧ r_Inc_init v0 v1 m = some r := by
  unfold c_Inc_init at h
  split at h
  · rename_i kv0 ov0 v1
    by_cases hkv0 : kv0 = 78
    case neg => rw [if_neg hkv0] at h; cases h
    rw [if_pos hkv0] at h
    subst hkv0
    obtain ⟨v0, hev0, h⟩ := Option.bind_eq_some_iff.mp h
    subst hev0
    exact ⟨v0, v1, rfl, h⟩
  · cases h
def cs_Inc_init : List Nat := [1, 27]
set_option maxRecDepth 100000 in
theorem E_Inc_init : ∀ (pc : Nat) (q : Ent), i_Inc_init pc = some q → ab_E KT CL ab_gW "StreamTransport$Incoming" "<init>" none prog_3_method_1_code s_Inc_init 2 pc q.1 q.2.1 q.2.2.1 q.2.2.2.1 q.2.2.2.2 := fun pc q hq =>
  ab_Eb_ok lc_Inc lj_Inc fl_Inc fpi_Inc nw_Inc na_Inc nq_Inc (ab_tab_all (t := t_Inc_init) (chk := fun pc q => ab_Eb none prog_3_method_1_code s_Inc_init 2 LC_Inc LJ_Inc FL_Inc FPi_Inc NW_Inc NA_Inc NQ_Inc pc q.1 q.2.1 q.2.2.1 q.2.2.2.1 q.2.2.2.2) (by decide +kernel) hq)
set_option maxRecDepth 100000 in
theorem mo_Inc_init {av : List AV} {m : Mm} {r : Mm} (h : c_Inc_init av m = some r) : ab_mo m r := by
  obtain ⟨v0, v1, -, h⟩ := c_Inc_init_inv h
  rw [r_Inc_init_eq] at h
  have hV : ∀ a av m m', eV_Inc_init a av m = some m' → ab_mo m m' := ab_ev_all (P := fun _ m r => ab_mo m r) [(0, c_O), (155, c_Arr_fill_IncB)] (List.forall_mem_cons.mpr ⟨fun av m r h => ab_kp_mo (kp_O h), List.forall_mem_cons.mpr ⟨fun av m r h => ab_kp_mo (kp_Arr_fill_IncB h), fun q hq => by cases hq⟩⟩)
  have hI : ∀ a av m q, eI_Inc_init a av m = some q → ab_mo m q.2 := ab_ev_all (P := fun _ (m : Mm) (r : Int32 × Mm) => ab_mo m r.2) [] (fun q hq => by cases hq)
  exact ab_morel (ρ := .inl (none, r)) hV hI (ab_rV_inv h)
set_option maxRecDepth 100000 in
theorem cl_Inc_init (l : Launch) : ∀ (pc : Nat) (q : Ent), i_Inc_init pc = some q → ab_inv q.1 = true → ab_CR l KT CL none ab_gW "StreamTransport$Incoming" prog_3_method_1_code 2 1 23 eV_Inc_init eI_Inc_init pc q := by
  intro pc q hq hi
  have hm : pc ∈ cs_Inc_init := ab_tab_cs (t := t_Inc_init) (by decide +kernel) hq hi
  simp only [cs_Inc_init, List.mem_cons, List.not_mem_nil, or_false] at hm
  rcases hm with rfl | rfl
  · cases (Option.some.inj hq : ((.invokespecial 3, 0, 1, 0, 0) : Ent) = q)
    exact ab_crO (by decide +kernel) (ab_gW_in 178 (by decide +kernel) rfl) ab_oI ab_oC (by decide) (by decide) (fun av m m' h => c_O_inv h) (fun av m => rfl)
  · cases (Option.some.inj hq : ((.invokestatic 22, 155, 2, 0, 0) : Ent) = q)
    exact ab_crS (by decide +kernel) cw_Arr_fill_IncB (ab_gW_in 179 (by decide +kernel) rfl) st_Arr_fill_IncB (by decide) (fun av m m' h => cm_Arr_fill_IncB l h) (fun av m r h => by cases h) KT_nd
theorem cw_Inc_init : ab_cw y_Inc_init prog_3_method_1_code 2 1 none := ⟨ab_gW_in 177 (by decide +kernel) rfl, ab_gW_in 67 (by decide +kernel) rfl, by decide +kernel, by decide +kernel, by decide +kernel⟩
theorem is_Inc_init : Cond.instanceMethod y_Inc_init ∈ ab_gW := ab_gW_in 176 (by decide +kernel) rfl
set_option maxRecDepth 100000 in
theorem cm_Inc_init (l : Launch) {av : List AV} {m : Mm} {r : Mm} (h0 : c_Inc_init av m = some r) : ∃ (k q : Nat) (av' : List AV), av = .inr (.inr (k, some q)) :: av' ∧ av'.length = 1 ∧ k ≠ 0 ∧ ab_nos av' ∧ ab_Met l KT CL y_Inc_init (Cond.code y_Inc_init prog_3_method_1_code 2 none :: ab_gW) 1 23 none av m none r := by
  obtain ⟨v0, v1, hav, h⟩ := c_Inc_init_inv h0
  rw [r_Inc_init_eq] at h
  have hmo : ab_mo m r := mo_Inc_init h0
  subst hav
  exact ⟨_, _, _, rfl, rfl, by decide, (by intro v hv q e; subst e; simp at hv), ab_met (by decide +kernel) KT_0 KT_nd KT_k3 E_Inc_init (cl_Inc_init l) hmo (Nat.le_of_ble_eq_true rfl) (ab_rV_inv h) (fun v hv => by cases hv)⟩
/-! StreamTransport$Intake.<init>(II)V -/
def y_Int_init : MethodName := ⟨"StreamTransport$Intake", "<init>", "(II)V"⟩
def t_Int_init (pc : Nat) : Option Ent :=
  bif Nat.blt pc 27 then
    (bif Nat.blt pc 13 then
      (bif Nat.blt pc 5 then
        (bif Nat.blt pc 1 then
          (bif Nat.beq pc 0 then some (.aload_n 0, 0, 0, 0, 0) else none)
        else
          bif Nat.blt pc 4 then
            (bif Nat.beq pc 1 then some (.invokespecial 3, 0, 1, 0, 0) else none)
          else
            bif Nat.beq pc 4 then some (.aload_n 0, 0, 0, 0, 0) else none)
      else
        bif Nat.blt pc 9 then
          (bif Nat.blt pc 6 then
            (bif Nat.beq pc 5 then some (.iconst 4, 0, 0, 0, 4) else none)
          else
            bif Nat.beq pc 6 then some (.anewarray 9, 77, 0, 0, 0) else none)
        else
          bif Nat.blt pc 12 then
            (bif Nat.beq pc 9 then some (.putfield 11, 2, 0, 1, 0) else none)
          else
            bif Nat.beq pc 12 then some (.aload_n 0, 0, 0, 0, 0) else none)
    else
      bif Nat.blt pc 19 then
        (bif Nat.blt pc 17 then
          (bif Nat.blt pc 14 then
            (bif Nat.beq pc 13 then some (.iload_n 1, 1, 0, 0, 0) else none)
          else
            bif Nat.beq pc 14 then some (.putfield 17, 2, 1, 0, 0) else none)
        else
          bif Nat.blt pc 18 then
            (bif Nat.beq pc 17 then some (.aload_n 0, 0, 0, 0, 0) else none)
          else
            bif Nat.beq pc 18 then some (.iload_n 2, 2, 0, 0, 0) else none)
      else
        bif Nat.blt pc 23 then
          (bif Nat.blt pc 22 then
            (bif Nat.beq pc 19 then some (.putfield 21, 2, 2, 0, 0) else none)
          else
            bif Nat.beq pc 22 then some (.aload_n 0, 0, 0, 0, 0) else none)
        else
          bif Nat.blt pc 24 then
            (bif Nat.beq pc 23 then some (.iload_n 2, 2, 0, 0, 0) else none)
          else
            bif Nat.beq pc 24 then some (.putfield 24, 2, 3, 0, 0) else none)
  else
    bif Nat.blt pc 39 then
      (bif Nat.blt pc 31 then
        (bif Nat.blt pc 29 then
          (bif Nat.blt pc 28 then
            (bif Nat.beq pc 27 then some (.iconst 0, 0, 0, 0, 0) else none)
          else
            bif Nat.beq pc 28 then some (.istore_n 3, 3, 0, 0, 0) else none)
        else
          bif Nat.blt pc 30 then
            (bif Nat.beq pc 29 then some (.iload_n 3, 3, 0, 0, 0) else none)
          else
            bif Nat.beq pc 30 then some (.iconst 4, 0, 0, 0, 4) else none)
      else
        bif Nat.blt pc 35 then
          (bif Nat.blt pc 34 then
            (bif Nat.beq pc 31 then some (.if_icmp .ge (23), 54, 0, 0, 0) else none)
          else
            bif Nat.beq pc 34 then some (.aload_n 0, 0, 0, 0, 0) else none)
        else
          bif Nat.blt pc 38 then
            (bif Nat.beq pc 35 then some (.getfield 11, 2, 0, 1, 0) else none)
          else
            bif Nat.beq pc 38 then some (.iload_n 3, 3, 0, 0, 0) else none)
    else
      bif Nat.blt pc 47 then
        (bif Nat.blt pc 43 then
          (bif Nat.blt pc 42 then
            (bif Nat.beq pc 39 then some (.new 9, 78, 0, 0, 0) else none)
          else
            bif Nat.beq pc 42 then some (.dup, 0, 0, 1, 0) else none)
        else
          bif Nat.blt pc 44 then
            (bif Nat.beq pc 43 then some (.iload_n 1, 1, 0, 0, 0) else none)
          else
            bif Nat.beq pc 44 then some (.invokespecial 27, 160, 2, 0, 0) else none)
      else
        bif Nat.blt pc 51 then
          (bif Nat.blt pc 48 then
            (bif Nat.beq pc 47 then some (.aastore, 0, 0, 0, 0) else none)
          else
            bif Nat.beq pc 48 then some (.iinc 3 1, 3, 0, 0, 1) else none)
        else
          bif Nat.blt pc 54 then
            (bif Nat.beq pc 51 then some (.goto (-22), 29, 0, 0, 0) else none)
          else
            bif Nat.beq pc 54 then some (.return_, 0, 0, 0, 0) else none
def i_Int_init : Nat → Option Ent := ab_tab 55 t_Int_init
def h_Int_init (pc : Nat) : Nat × List Bool := bif Nat.beq pc 29 then (1, [true, true, false, true]) else (0, [])
def s_Int_init (pc : Nat) : List (Int32 × Nat) × Nat := ([], 0)
noncomputable def eV_Int_init : Nat → List AV → Mm → Option Mm := ab_ev [(0, c_O), (160, c_Inc_init)]
noncomputable def eI_Int_init : Nat → List AV → Mm → Option (Int32 × Mm) := ab_ev []
noncomputable def b_Int_init_0 (f : Nat) (v0 : Nat) (v1 : Int32) (v2 : Int32) (m : Mm) : Option Rs := ab_ex KT none s_Int_init eV_Int_init eI_Int_init i_Int_init h_Int_init f 0 [some (.inr (.inr (76, some v0))), some (.inl v1), some (.inl v2), none] [] m
noncomputable def b_Int_init_29 (f : Nat) (v0 : Nat) (v1 : Int32) (v3 : Int32) (m : Mm) : Option Rs := ab_ex KT none s_Int_init eV_Int_init eI_Int_init i_Int_init h_Int_init f 29 [some (.inr (.inr (76, some v0))), some (.inl v1), none, some (.inl v3)] [] m
set_option maxRecDepth 100000 in
set_option maxHeartbeats 4000000 in
theorem b_Int_init_0_eq (f : Nat) (v0 : Nat) (v1 : Int32) (v2 : Int32) (m : Mm) : b_Int_init_0 (f + 1) v0 v1 v2 m =
    if (4 : Int32) = Int32.ofNat 4 then
    ab_let m.2.2.2.1.length fun n2 =>
    ab_let (ab_ap m 77) fun m1 =>
    ab_let (ab_uR m1 40 v0 0 (some n2)) fun m3 =>
    ab_let (ab_uI m3 41 v0 0 v1) fun m4 =>
    ab_let (ab_uI m4 42 v0 0 v2) fun m5 =>
    ab_let (ab_uI m5 43 v0 0 v2) fun m6 =>
    b_Int_init_29 f v0 v1 (0 : Int32) m6
    else none := rfl
set_option maxRecDepth 100000 in
set_option maxHeartbeats 4000000 in
theorem b_Int_init_29_eq (f : Nat) (v0 : Nat) (v1 : Int32) (v3 : Int32) (m : Mm) : b_Int_init_29 (f + 1) v0 v1 v3 m =
    if (4 : Int32) ≤ v3 then
      some (.inl (none, m))
    else
      ab_let m.2.2.2.1.length fun n2 =>
      ab_let (ab_ap m 78) fun m1 =>
      (r_Inc_init n2 v1 m1).bind fun m3 =>
      (m.2.2.1 40 v0 0).bind fun q4 =>
        (ab_ix v3 4).bind fun i5 =>
      ab_let (ab_uR m3 45 q4 i5 (some n2)) fun m6 =>
      ab_let (v3 + (1 : Int32)) fun x7 =>
      b_Int_init_29 f v0 v1 x7 m6 := rfl
noncomputable def r_Int_init : Nat → Int32 → Int32 → Mm → Option Mm := ab_seal fun v0 v1 v2 m => ab_rV (b_Int_init_0 50000 v0 v1 v2 m)
theorem r_Int_init_eq (v0 : Nat) (v1 : Int32) (v2 : Int32) (m : Mm) : r_Int_init v0 v1 v2 m = ab_rV (b_Int_init_0 50000 v0 v1 v2 m) := by
  unfold r_Int_init
  rw [ab_seal_eq]
noncomputable def c_Int_init : List AV → Mm → Option Mm := fun av m => match av with
  | [.inr (.inr (kv0, ov0)), .inl v1, .inl v2] => if kv0 = 76 then (ov0.bind fun v0 => r_Int_init v0 v1 v2 m) else none
  | _ => none
theorem c_Int_init_inv {av : List AV} {m : Mm} {r : Mm} (h : c_Int_init av m = some r) : ∃ (v0 : Nat) (v1 : Int32) (v2 : Int32), av = [.inr (.inr (76, some v0)), .inl v1, .inl v2] ∧ r_Int_init v0 v1 v2 m = some r := by
  unfold c_Int_init at h
  split at h
  · rename_i kv0 ov0 v1 v2
    by_cases hkv0 : kv0 = 76
    case neg => rw [if_neg hkv0] at h; cases h
    rw [if_pos hkv0] at h
    subst hkv0
    obtain ⟨v0, hev0, h⟩ := Option.bind_eq_some_iff.mp h
    subst hev0
    exact ⟨v0, v1, v2, rfl, h⟩
  · cases h
def cs_Int_init : List Nat := [1, 44]
set_option maxRecDepth 100000 in
theorem E_Int_init : ∀ (pc : Nat) (q : Ent), i_Int_init pc = some q → ab_E KT CL ab_gW "StreamTransport$Intake" "<init>" none prog_4_method_1_code s_Int_init 4 pc q.1 q.2.1 q.2.2.1 q.2.2.2.1 q.2.2.2.2 := fun pc q hq =>
  ab_Eb_ok lc_Int lj_Int fl_Int fpi_Int nw_Int na_Int nq_Int (ab_tab_all (t := t_Int_init) (chk := fun pc q => ab_Eb none prog_4_method_1_code s_Int_init 4 LC_Int LJ_Int FL_Int FPi_Int NW_Int NA_Int NQ_Int pc q.1 q.2.1 q.2.2.1 q.2.2.2.1 q.2.2.2.2) (by decide +kernel) hq)
set_option maxRecDepth 100000 in
theorem mo_Int_init {av : List AV} {m : Mm} {r : Mm} (h : c_Int_init av m = some r) : ab_mo m r := by
  obtain ⟨v0, v1, v2, -, h⟩ := c_Int_init_inv h
  rw [r_Int_init_eq] at h
  have hV : ∀ a av m m', eV_Int_init a av m = some m' → ab_mo m m' := ab_ev_all (P := fun _ m r => ab_mo m r) [(0, c_O), (160, c_Inc_init)] (List.forall_mem_cons.mpr ⟨fun av m r h => ab_kp_mo (kp_O h), List.forall_mem_cons.mpr ⟨fun av m r h => mo_Inc_init h, fun q hq => by cases hq⟩⟩)
  have hI : ∀ a av m q, eI_Int_init a av m = some q → ab_mo m q.2 := ab_ev_all (P := fun _ (m : Mm) (r : Int32 × Mm) => ab_mo m r.2) [] (fun q hq => by cases hq)
  exact ab_morel (ρ := .inl (none, r)) hV hI (ab_rV_inv h)
set_option maxRecDepth 100000 in
theorem cl_Int_init (l : Launch) : ∀ (pc : Nat) (q : Ent), i_Int_init pc = some q → ab_inv q.1 = true → ab_CR l KT CL none ab_gW "StreamTransport$Intake" prog_4_method_1_code 4 2 44 eV_Int_init eI_Int_init pc q := by
  intro pc q hq hi
  have hm : pc ∈ cs_Int_init := ab_tab_cs (t := t_Int_init) (by decide +kernel) hq hi
  simp only [cs_Int_init, List.mem_cons, List.not_mem_nil, or_false] at hm
  rcases hm with rfl | rfl
  · cases (Option.some.inj hq : ((.invokespecial 3, 0, 1, 0, 0) : Ent) = q)
    exact ab_crO (by decide +kernel) (ab_gW_in 171 (by decide +kernel) rfl) ab_oI ab_oC (by decide) (by decide) (fun av m m' h => c_O_inv h) (fun av m => rfl)
  · cases (Option.some.inj hq : ((.invokespecial 27, 160, 2, 0, 0) : Ent) = q)
    exact ab_crI (by decide +kernel) cw_Inc_init (ab_gW_in 175 (by decide +kernel) rfl) is_Inc_init rfl rfl (by decide) (fun av m m' h => cm_Inc_init l h) (fun av m => rfl) KT_nd
theorem cw_Int_init : ab_cw y_Int_init prog_4_method_1_code 4 2 none := ⟨ab_gW_in 170 (by decide +kernel) rfl, ab_gW_in 66 (by decide +kernel) rfl, by decide +kernel, by decide +kernel, by decide +kernel⟩
theorem is_Int_init : Cond.instanceMethod y_Int_init ∈ ab_gW := ab_gW_in 169 (by decide +kernel) rfl
set_option maxRecDepth 100000 in
theorem cm_Int_init (l : Launch) {av : List AV} {m : Mm} {r : Mm} (h0 : c_Int_init av m = some r) : ∃ (k q : Nat) (av' : List AV), av = .inr (.inr (k, some q)) :: av' ∧ av'.length = 2 ∧ k ≠ 0 ∧ ab_nos av' ∧ ab_Met l KT CL y_Int_init (Cond.code y_Int_init prog_4_method_1_code 4 none :: ab_gW) 2 44 none av m none r := by
  obtain ⟨v0, v1, v2, hav, h⟩ := c_Int_init_inv h0
  rw [r_Int_init_eq] at h
  have hmo : ab_mo m r := mo_Int_init h0
  subst hav
  exact ⟨_, _, _, rfl, rfl, by decide, (by intro v hv q e; subst e; simp at hv), ab_met (by decide +kernel) KT_0 KT_nd KT_k3 E_Int_init (cl_Int_init l) hmo (Nat.le_of_ble_eq_true rfl) (ab_rV_inv h) (fun v hv => by cases hv)⟩
/-! StreamTransport$Outgoing.<init>(I)V -/
def y_Out_init : MethodName := ⟨"StreamTransport$Outgoing", "<init>", "(I)V"⟩
def t_Out_init (pc : Nat) : Option Ent :=
  bif Nat.blt pc 20 then
    (bif Nat.blt pc 9 then
      (bif Nat.blt pc 4 then
        (bif Nat.blt pc 1 then
          (bif Nat.beq pc 0 then some (.aload_n 0, 0, 0, 0, 0) else none)
        else
          bif Nat.beq pc 1 then some (.invokespecial 3, 0, 1, 0, 0) else none)
      else
        bif Nat.blt pc 5 then
          (bif Nat.beq pc 4 then some (.aload_n 0, 0, 0, 0, 0) else none)
        else
          bif Nat.blt pc 7 then
            (bif Nat.beq pc 5 then some (.bipush 64, 0, 0, 0, 64) else none)
          else
            bif Nat.beq pc 7 then some (.newarray .int, 20, 0, 0, 0) else none)
    else
      bif Nat.blt pc 13 then
        (bif Nat.blt pc 12 then
          (bif Nat.beq pc 9 then some (.putfield 9, 5, 0, 1, 0) else none)
        else
          bif Nat.beq pc 12 then some (.aload_n 0, 0, 0, 0, 0) else none)
      else
        bif Nat.blt pc 15 then
          (bif Nat.beq pc 13 then some (.bipush 64, 0, 0, 0, 64) else none)
        else
          bif Nat.blt pc 17 then
            (bif Nat.beq pc 15 then some (.newarray .int, 21, 0, 0, 0) else none)
          else
            bif Nat.beq pc 17 then some (.putfield 15, 5, 1, 1, 0) else none)
  else
    bif Nat.blt pc 27 then
      (bif Nat.blt pc 22 then
        (bif Nat.blt pc 21 then
          (bif Nat.beq pc 20 then some (.aload_n 0, 0, 0, 0, 0) else none)
        else
          bif Nat.beq pc 21 then some (.iconst 0, 0, 0, 0, 0) else none)
      else
        bif Nat.blt pc 25 then
          (bif Nat.beq pc 22 then some (.putfield 18, 5, 7, 0, 0) else none)
        else
          bif Nat.blt pc 26 then
            (bif Nat.beq pc 25 then some (.aload_n 0, 0, 0, 0, 0) else none)
          else
            bif Nat.beq pc 26 then some (.iconst 0, 0, 0, 0, 0) else none)
    else
      bif Nat.blt pc 31 then
        (bif Nat.blt pc 30 then
          (bif Nat.beq pc 27 then some (.putfield 22, 5, 8, 0, 0) else none)
        else
          bif Nat.beq pc 30 then some (.aload_n 0, 0, 0, 0, 0) else none)
      else
        bif Nat.blt pc 32 then
          (bif Nat.beq pc 31 then some (.iload_n 1, 1, 0, 0, 0) else none)
        else
          bif Nat.blt pc 35 then
            (bif Nat.beq pc 32 then some (.putfield 25, 5, 4, 0, 0) else none)
          else
            bif Nat.beq pc 35 then some (.return_, 0, 0, 0, 0) else none
def i_Out_init : Nat → Option Ent := ab_tab 36 t_Out_init
def h_Out_init (pc : Nat) : Nat × List Bool := (0, [])
def s_Out_init (pc : Nat) : List (Int32 × Nat) × Nat := ([], 0)
noncomputable def eV_Out_init : Nat → List AV → Mm → Option Mm := ab_ev [(0, c_O)]
noncomputable def eI_Out_init : Nat → List AV → Mm → Option (Int32 × Mm) := ab_ev []
noncomputable def b_Out_init_0 (f : Nat) (v0 : Nat) (v1 : Int32) (m : Mm) : Option Rs := ab_ex KT none s_Out_init eV_Out_init eI_Out_init i_Out_init h_Out_init f 0 [some (.inr (.inr (81, some v0))), some (.inl v1)] [] m
set_option maxRecDepth 100000 in
set_option maxHeartbeats 4000000 in
theorem b_Out_init_0_eq (f : Nat) (v0 : Nat) (v1 : Int32) (m : Mm) : b_Out_init_0 (f + 1) v0 v1 m =
    if (64 : Int32) = Int32.ofNat 64 then
    ab_let m.2.2.2.1.length fun n2 =>
    ab_let (ab_ap m 20) fun m1 =>
    ab_let (ab_uR m1 57 v0 0 (some n2)) fun m3 =>
    if (64 : Int32) = Int32.ofNat 64 then
    ab_let m3.2.2.2.1.length fun n5 =>
    ab_let (ab_ap m3 21) fun m4 =>
    ab_let (ab_uR m4 58 v0 0 (some n5)) fun m6 =>
    ab_let (ab_uI m6 64 v0 0 (0 : Int32)) fun m7 =>
    ab_let (ab_uI m7 65 v0 0 (0 : Int32)) fun m8 =>
    ab_let (ab_uI m8 61 v0 0 v1) fun m9 =>
    some (.inl (none, m9))
    else none
    else none := rfl
noncomputable def r_Out_init : Nat → Int32 → Mm → Option Mm := ab_seal fun v0 v1 m => ab_rV (b_Out_init_0 50000 v0 v1 m)
theorem r_Out_init_eq (v0 : Nat) (v1 : Int32) (m : Mm) : r_Out_init v0 v1 m = ab_rV (b_Out_init_0 50000 v0 v1 m) := by
  unfold r_Out_init
  rw [ab_seal_eq]
noncomputable def c_Out_init : List AV → Mm → Option Mm := fun av m => match av with
  | [.inr (.inr (kv0, ov0)), .inl v1] => if kv0 = 81 then (ov0.bind fun v0 => r_Out_init v0 v1 m) else none
  | _ => none
theorem c_Out_init_inv {av : List AV} {m : Mm} {r : Mm} (h : c_Out_init av m = some r) : ∃ (v0 : Nat) (v1 : Int32), av = [.inr (.inr (81, some v0)), .inl v1] ∧ r_Out_init v0 v1 m = some r := by
  unfold c_Out_init at h
  split at h
  · rename_i kv0 ov0 v1
    by_cases hkv0 : kv0 = 81
    case neg => rw [if_neg hkv0] at h; cases h
    rw [if_pos hkv0] at h
    subst hkv0
    obtain ⟨v0, hev0, h⟩ := Option.bind_eq_some_iff.mp h
    subst hev0
    exact ⟨v0, v1, rfl, h⟩
  · cases h
def cs_Out_init : List Nat := [1]
set_option maxRecDepth 100000 in
theorem E_Out_init : ∀ (pc : Nat) (q : Ent), i_Out_init pc = some q → ab_E KT CL ab_gW "StreamTransport$Outgoing" "<init>" none prog_7_method_1_code s_Out_init 2 pc q.1 q.2.1 q.2.2.1 q.2.2.2.1 q.2.2.2.2 := fun pc q hq =>
  ab_Eb_ok lc_Out lj_Out fl_Out fpi_Out nw_Out na_Out nq_Out (ab_tab_all (t := t_Out_init) (chk := fun pc q => ab_Eb none prog_7_method_1_code s_Out_init 2 LC_Out LJ_Out FL_Out FPi_Out NW_Out NA_Out NQ_Out pc q.1 q.2.1 q.2.2.1 q.2.2.2.1 q.2.2.2.2) (by decide +kernel) hq)
set_option maxRecDepth 100000 in
theorem mo_Out_init {av : List AV} {m : Mm} {r : Mm} (h : c_Out_init av m = some r) : ab_mo m r := by
  obtain ⟨v0, v1, -, h⟩ := c_Out_init_inv h
  rw [r_Out_init_eq] at h
  have hV : ∀ a av m m', eV_Out_init a av m = some m' → ab_mo m m' := ab_ev_all (P := fun _ m r => ab_mo m r) [(0, c_O)] (List.forall_mem_cons.mpr ⟨fun av m r h => ab_kp_mo (kp_O h), fun q hq => by cases hq⟩)
  have hI : ∀ a av m q, eI_Out_init a av m = some q → ab_mo m q.2 := ab_ev_all (P := fun _ (m : Mm) (r : Int32 × Mm) => ab_mo m r.2) [] (fun q hq => by cases hq)
  exact ab_morel (ρ := .inl (none, r)) hV hI (ab_rV_inv h)
set_option maxRecDepth 100000 in
theorem cl_Out_init (l : Launch) : ∀ (pc : Nat) (q : Ent), i_Out_init pc = some q → ab_inv q.1 = true → ab_CR l KT CL none ab_gW "StreamTransport$Outgoing" prog_7_method_1_code 2 1 20 eV_Out_init eI_Out_init pc q := by
  intro pc q hq hi
  have hm : pc ∈ cs_Out_init := ab_tab_cs (t := t_Out_init) (by decide +kernel) hq hi
  simp only [cs_Out_init, List.mem_cons, List.not_mem_nil, or_false] at hm
  rcases hm with rfl
  · cases (Option.some.inj hq : ((.invokespecial 3, 0, 1, 0, 0) : Ent) = q)
    exact ab_crO (by decide +kernel) (ab_gW_in 243 (by decide +kernel) rfl) ab_oI ab_oC (by decide) (by decide) (fun av m m' h => c_O_inv h) (fun av m => rfl)
theorem cw_Out_init : ab_cw y_Out_init prog_7_method_1_code 2 1 none := ⟨ab_gW_in 242 (by decide +kernel) rfl, ab_gW_in 70 (by decide +kernel) rfl, by decide +kernel, by decide +kernel, by decide +kernel⟩
theorem is_Out_init : Cond.instanceMethod y_Out_init ∈ ab_gW := ab_gW_in 241 (by decide +kernel) rfl
set_option maxRecDepth 100000 in
theorem cm_Out_init (l : Launch) {av : List AV} {m : Mm} {r : Mm} (h0 : c_Out_init av m = some r) : ∃ (k q : Nat) (av' : List AV), av = .inr (.inr (k, some q)) :: av' ∧ av'.length = 1 ∧ k ≠ 0 ∧ ab_nos av' ∧ ab_Met l KT CL y_Out_init (Cond.code y_Out_init prog_7_method_1_code 2 none :: ab_gW) 1 20 none av m none r := by
  obtain ⟨v0, v1, hav, h⟩ := c_Out_init_inv h0
  rw [r_Out_init_eq] at h
  have hmo : ab_mo m r := mo_Out_init h0
  subst hav
  exact ⟨_, _, _, rfl, rfl, by decide, (by intro v hv q e; subst e; simp at hv), ab_met (by decide +kernel) KT_0 KT_nd KT_k3 E_Out_init (cl_Out_init l) hmo (Nat.le_of_ble_eq_true rfl) (ab_rV_inv h) (fun v hv => by cases hv)⟩
/-! StreamTransport$Outflow.<init>(II)V -/
def y_Otf_init : MethodName := ⟨"StreamTransport$Outflow", "<init>", "(II)V"⟩
def t_Otf_init (pc : Nat) : Option Ent :=
  bif Nat.blt pc 20 then
    (bif Nat.blt pc 12 then
      (bif Nat.blt pc 5 then
        (bif Nat.blt pc 1 then
          (bif Nat.beq pc 0 then some (.aload_n 0, 0, 0, 0, 0) else none)
        else
          bif Nat.blt pc 4 then
            (bif Nat.beq pc 1 then some (.invokespecial 3, 0, 1, 0, 0) else none)
          else
            bif Nat.beq pc 4 then some (.aload_n 0, 0, 0, 0, 0) else none)
      else
        bif Nat.blt pc 6 then
          (bif Nat.beq pc 5 then some (.iconst 4, 0, 0, 0, 4) else none)
        else
          bif Nat.blt pc 9 then
            (bif Nat.beq pc 6 then some (.anewarray 9, 80, 0, 0, 0) else none)
          else
            bif Nat.beq pc 9 then some (.putfield 11, 4, 0, 1, 0) else none)
    else
      bif Nat.blt pc 17 then
        (bif Nat.blt pc 13 then
          (bif Nat.beq pc 12 then some (.aload_n 0, 0, 0, 0, 0) else none)
        else
          bif Nat.blt pc 14 then
            (bif Nat.beq pc 13 then some (.iload_n 2, 2, 0, 0, 0) else none)
          else
            bif Nat.beq pc 14 then some (.putfield 17, 4, 1, 0, 0) else none)
      else
        bif Nat.blt pc 18 then
          (bif Nat.beq pc 17 then some (.iconst 0, 0, 0, 0, 0) else none)
        else
          bif Nat.blt pc 19 then
            (bif Nat.beq pc 18 then some (.istore_n 3, 3, 0, 0, 0) else none)
          else
            bif Nat.beq pc 19 then some (.iload_n 3, 3, 0, 0, 0) else none)
  else
    bif Nat.blt pc 32 then
      (bif Nat.blt pc 25 then
        (bif Nat.blt pc 21 then
          (bif Nat.beq pc 20 then some (.iconst 4, 0, 0, 0, 4) else none)
        else
          bif Nat.blt pc 24 then
            (bif Nat.beq pc 21 then some (.if_icmp .ge (23), 44, 0, 0, 0) else none)
          else
            bif Nat.beq pc 24 then some (.aload_n 0, 0, 0, 0, 0) else none)
      else
        bif Nat.blt pc 28 then
          (bif Nat.beq pc 25 then some (.getfield 11, 4, 0, 1, 0) else none)
        else
          bif Nat.blt pc 29 then
            (bif Nat.beq pc 28 then some (.iload_n 3, 3, 0, 0, 0) else none)
          else
            bif Nat.beq pc 29 then some (.new 9, 81, 0, 0, 0) else none)
    else
      bif Nat.blt pc 37 then
        (bif Nat.blt pc 33 then
          (bif Nat.beq pc 32 then some (.dup, 0, 0, 1, 0) else none)
        else
          bif Nat.blt pc 34 then
            (bif Nat.beq pc 33 then some (.iload_n 1, 1, 0, 0, 0) else none)
          else
            bif Nat.beq pc 34 then some (.invokespecial 21, 162, 2, 0, 0) else none)
      else
        bif Nat.blt pc 41 then
          (bif Nat.blt pc 38 then
            (bif Nat.beq pc 37 then some (.aastore, 0, 0, 0, 0) else none)
          else
            bif Nat.beq pc 38 then some (.iinc 3 1, 3, 0, 0, 1) else none)
        else
          bif Nat.blt pc 44 then
            (bif Nat.beq pc 41 then some (.goto (-22), 19, 0, 0, 0) else none)
          else
            bif Nat.beq pc 44 then some (.return_, 0, 0, 0, 0) else none
def i_Otf_init : Nat → Option Ent := ab_tab 45 t_Otf_init
def h_Otf_init (pc : Nat) : Nat × List Bool := bif Nat.beq pc 19 then (1, [true, true, false, true]) else (0, [])
def s_Otf_init (pc : Nat) : List (Int32 × Nat) × Nat := ([], 0)
noncomputable def eV_Otf_init : Nat → List AV → Mm → Option Mm := ab_ev [(0, c_O), (162, c_Out_init)]
noncomputable def eI_Otf_init : Nat → List AV → Mm → Option (Int32 × Mm) := ab_ev []
noncomputable def b_Otf_init_0 (f : Nat) (v0 : Nat) (v1 : Int32) (v2 : Int32) (m : Mm) : Option Rs := ab_ex KT none s_Otf_init eV_Otf_init eI_Otf_init i_Otf_init h_Otf_init f 0 [some (.inr (.inr (79, some v0))), some (.inl v1), some (.inl v2), none] [] m
noncomputable def b_Otf_init_19 (f : Nat) (v0 : Nat) (v1 : Int32) (v3 : Int32) (m : Mm) : Option Rs := ab_ex KT none s_Otf_init eV_Otf_init eI_Otf_init i_Otf_init h_Otf_init f 19 [some (.inr (.inr (79, some v0))), some (.inl v1), none, some (.inl v3)] [] m
set_option maxRecDepth 100000 in
set_option maxHeartbeats 4000000 in
theorem b_Otf_init_0_eq (f : Nat) (v0 : Nat) (v1 : Int32) (v2 : Int32) (m : Mm) : b_Otf_init_0 (f + 1) v0 v1 v2 m =
    if (4 : Int32) = Int32.ofNat 4 then
    ab_let m.2.2.2.1.length fun n2 =>
    ab_let (ab_ap m 80) fun m1 =>
    ab_let (ab_uR m1 54 v0 0 (some n2)) fun m3 =>
    ab_let (ab_uI m3 55 v0 0 v2) fun m4 =>
    b_Otf_init_19 f v0 v1 (0 : Int32) m4
    else none := rfl
set_option maxRecDepth 100000 in
set_option maxHeartbeats 4000000 in
theorem b_Otf_init_19_eq (f : Nat) (v0 : Nat) (v1 : Int32) (v3 : Int32) (m : Mm) : b_Otf_init_19 (f + 1) v0 v1 v3 m =
    if (4 : Int32) ≤ v3 then
      some (.inl (none, m))
    else
      ab_let m.2.2.2.1.length fun n2 =>
      ab_let (ab_ap m 81) fun m1 =>
      (r_Out_init n2 v1 m1).bind fun m3 =>
      (m.2.2.1 54 v0 0).bind fun q4 =>
        (ab_ix v3 4).bind fun i5 =>
      ab_let (ab_uR m3 56 q4 i5 (some n2)) fun m6 =>
      ab_let (v3 + (1 : Int32)) fun x7 =>
      b_Otf_init_19 f v0 v1 x7 m6 := rfl
noncomputable def r_Otf_init : Nat → Int32 → Int32 → Mm → Option Mm := ab_seal fun v0 v1 v2 m => ab_rV (b_Otf_init_0 50000 v0 v1 v2 m)
theorem r_Otf_init_eq (v0 : Nat) (v1 : Int32) (v2 : Int32) (m : Mm) : r_Otf_init v0 v1 v2 m = ab_rV (b_Otf_init_0 50000 v0 v1 v2 m) := by
  unfold r_Otf_init
  rw [ab_seal_eq]
noncomputable def c_Otf_init : List AV → Mm → Option Mm := fun av m => match av with
  | [.inr (.inr (kv0, ov0)), .inl v1, .inl v2] => if kv0 = 79 then (ov0.bind fun v0 => r_Otf_init v0 v1 v2 m) else none
  | _ => none
theorem c_Otf_init_inv {av : List AV} {m : Mm} {r : Mm} (h : c_Otf_init av m = some r) : ∃ (v0 : Nat) (v1 : Int32) (v2 : Int32), av = [.inr (.inr (79, some v0)), .inl v1, .inl v2] ∧ r_Otf_init v0 v1 v2 m = some r := by
  unfold c_Otf_init at h
  split at h
  · rename_i kv0 ov0 v1 v2
    by_cases hkv0 : kv0 = 79
    case neg => rw [if_neg hkv0] at h; cases h
    rw [if_pos hkv0] at h
    subst hkv0
    obtain ⟨v0, hev0, h⟩ := Option.bind_eq_some_iff.mp h
    subst hev0
    exact ⟨v0, v1, v2, rfl, h⟩
  · cases h
def cs_Otf_init : List Nat := [1, 34]
set_option maxRecDepth 100000 in
theorem E_Otf_init : ∀ (pc : Nat) (q : Ent), i_Otf_init pc = some q → ab_E KT CL ab_gW "StreamTransport$Outflow" "<init>" none prog_6_method_1_code s_Otf_init 4 pc q.1 q.2.1 q.2.2.1 q.2.2.2.1 q.2.2.2.2 := fun pc q hq =>
  ab_Eb_ok lc_Otf lj_Otf fl_Otf fpi_Otf nw_Otf na_Otf nq_Otf (ab_tab_all (t := t_Otf_init) (chk := fun pc q => ab_Eb none prog_6_method_1_code s_Otf_init 4 LC_Otf LJ_Otf FL_Otf FPi_Otf NW_Otf NA_Otf NQ_Otf pc q.1 q.2.1 q.2.2.1 q.2.2.2.1 q.2.2.2.2) (by decide +kernel) hq)
set_option maxRecDepth 100000 in
theorem mo_Otf_init {av : List AV} {m : Mm} {r : Mm} (h : c_Otf_init av m = some r) : ab_mo m r := by
  obtain ⟨v0, v1, v2, -, h⟩ := c_Otf_init_inv h
  rw [r_Otf_init_eq] at h
  have hV : ∀ a av m m', eV_Otf_init a av m = some m' → ab_mo m m' := ab_ev_all (P := fun _ m r => ab_mo m r) [(0, c_O), (162, c_Out_init)] (List.forall_mem_cons.mpr ⟨fun av m r h => ab_kp_mo (kp_O h), List.forall_mem_cons.mpr ⟨fun av m r h => mo_Out_init h, fun q hq => by cases hq⟩⟩)
  have hI : ∀ a av m q, eI_Otf_init a av m = some q → ab_mo m q.2 := ab_ev_all (P := fun _ (m : Mm) (r : Int32 × Mm) => ab_mo m r.2) [] (fun q hq => by cases hq)
  exact ab_morel (ρ := .inl (none, r)) hV hI (ab_rV_inv h)
set_option maxRecDepth 100000 in
theorem cl_Otf_init (l : Launch) : ∀ (pc : Nat) (q : Ent), i_Otf_init pc = some q → ab_inv q.1 = true → ab_CR l KT CL none ab_gW "StreamTransport$Outflow" prog_6_method_1_code 4 2 41 eV_Otf_init eI_Otf_init pc q := by
  intro pc q hq hi
  have hm : pc ∈ cs_Otf_init := ab_tab_cs (t := t_Otf_init) (by decide +kernel) hq hi
  simp only [cs_Otf_init, List.mem_cons, List.not_mem_nil, or_false] at hm
  rcases hm with rfl | rfl
  · cases (Option.some.inj hq : ((.invokespecial 3, 0, 1, 0, 0) : Ent) = q)
    exact ab_crO (by decide +kernel) (ab_gW_in 236 (by decide +kernel) rfl) ab_oI ab_oC (by decide) (by decide) (fun av m m' h => c_O_inv h) (fun av m => rfl)
  · cases (Option.some.inj hq : ((.invokespecial 21, 162, 2, 0, 0) : Ent) = q)
    exact ab_crI (by decide +kernel) cw_Out_init (ab_gW_in 240 (by decide +kernel) rfl) is_Out_init rfl rfl (by decide) (fun av m m' h => cm_Out_init l h) (fun av m => rfl) KT_nd
theorem cw_Otf_init : ab_cw y_Otf_init prog_6_method_1_code 4 2 none := ⟨ab_gW_in 235 (by decide +kernel) rfl, ab_gW_in 69 (by decide +kernel) rfl, by decide +kernel, by decide +kernel, by decide +kernel⟩
theorem is_Otf_init : Cond.instanceMethod y_Otf_init ∈ ab_gW := ab_gW_in 234 (by decide +kernel) rfl
set_option maxRecDepth 100000 in
theorem cm_Otf_init (l : Launch) {av : List AV} {m : Mm} {r : Mm} (h0 : c_Otf_init av m = some r) : ∃ (k q : Nat) (av' : List AV), av = .inr (.inr (k, some q)) :: av' ∧ av'.length = 2 ∧ k ≠ 0 ∧ ab_nos av' ∧ ab_Met l KT CL y_Otf_init (Cond.code y_Otf_init prog_6_method_1_code 4 none :: ab_gW) 2 41 none av m none r := by
  obtain ⟨v0, v1, v2, hav, h⟩ := c_Otf_init_inv h0
  rw [r_Otf_init_eq] at h
  have hmo : ab_mo m r := mo_Otf_init h0
  subst hav
  exact ⟨_, _, _, rfl, rfl, by decide, (by intro v hv q e; subst e; simp at hv), ab_met (by decide +kernel) KT_0 KT_nd KT_k3 E_Otf_init (cl_Otf_init l) hmo (Nat.le_of_ble_eq_true rfl) (ab_rV_inv h) (fun v hv => by cases hv)⟩
def FLp_Snt : List ((Nat × Nat × Nat) × Nat) := [((9, 8, 0), 408), ((15, 8, 2), 411), ((18, 8, 3), 413), ((22, 8, 4), 415), ((25, 8, 5), 418), ((28, 8, 6), 421), ((32, 8, 7), 424)]
def FL_Snt : List (Nat × Nat × Nat) := [(9, 8, 0), (15, 8, 2), (18, 8, 3), (22, 8, 4), (25, 8, 5), (28, 8, 6), (32, 8, 7)]
theorem fl_Snt : ∀ q ∈ FL_Snt, ab_fld CL ab_gW "StreamTransport$Sent" q.1 q.2.1 q.2.2 := ab_flb_ok (own := "StreamTransport$Sent") (l := FLp_Snt) (by decide +kernel)
def FPnp_Snt : List ((Nat × Nat × Nat) × Nat) := [((9, 8, 0), 408), ((15, 8, 2), 411)]
def FPn_Snt : List (Nat × Nat × Nat) := [(9, 8, 0), (15, 8, 2)]
theorem fpn_Snt (nm : String) : ∀ q ∈ FPn_Snt, ∃ ty, ab_fldp CL ab_gW "StreamTransport$Sent" nm q.1 q.2.1 q.2.2 ty ∧ ∀ (k t r k' d' : Nat), ab_fs KT q.2.1 q.2.2 k = some (t, r, k', d') → (t = 0 → ty = .int) ∧ (t = 1 → ty = .boolean) ∧ (t = 2 → ((∃ n, ty = .object n) ∨ ∃ t, ty = .array t) ∧ k' ≠ 0) := ab_fpb_ok (own := "StreamTransport$Sent") (nm := nm) (l := FPnp_Snt) (ab_fpn_ok (by decide +kernel))
def FPip_Snt : List ((Nat × Nat × Nat) × Nat) := [((9, 8, 0), 408), ((15, 8, 2), 411), ((18, 8, 3), 413), ((22, 8, 4), 415), ((25, 8, 5), 418), ((28, 8, 6), 421), ((32, 8, 7), 424)]
def FPi_Snt : List (Nat × Nat × Nat) := [(9, 8, 0), (15, 8, 2), (18, 8, 3), (22, 8, 4), (25, 8, 5), (28, 8, 6), (32, 8, 7)]
theorem fpi_Snt : ∀ q ∈ FPi_Snt, ∃ ty, ab_fldp CL ab_gW "StreamTransport$Sent" "<init>" q.1 q.2.1 q.2.2 ty ∧ ∀ (k t r k' d' : Nat), ab_fs KT q.2.1 q.2.2 k = some (t, r, k', d') → (t = 0 → ty = .int) ∧ (t = 1 → ty = .boolean) ∧ (t = 2 → ((∃ n, ty = .object n) ∨ ∃ t, ty = .array t) ∧ k' ≠ 0) := ab_fpb_ok (own := "StreamTransport$Sent") (nm := "<init>") (l := FPip_Snt) (by decide +kernel)
def LCp_Snt : List ((Nat × Int32) × Nat) := []
def LC_Snt : List (Nat × Int32) := []
theorem lc_Snt : ∀ q ∈ LC_Snt, Cond.constant "StreamTransport$Sent" q.1 q.2 ∈ ab_gW := ab_lcb (own := "StreamTransport$Sent") (l := LCp_Snt) (by decide +kernel)
def LJp_Snt : List ((Nat × Nat) × Nat) := []
def LJ_Snt : List (Nat × Nat) := []
theorem lj_Snt : ∀ q ∈ LJ_Snt, Cond.constantLong "StreamTransport$Sent" q.1 (Int64.ofNat q.2) ∈ ab_gW := ab_ljb (own := "StreamTransport$Sent") (l := LJp_Snt) (by decide +kernel)
def NWp_Snt : List ((Nat × Nat) × Nat × Nat × Nat) := []
def NW_Snt : List (Nat × Nat) := []
theorem nw_Snt : ∀ q ∈ NW_Snt, ab_newok KT CL ab_gW "StreamTransport$Sent" q.1 q.2 := ab_nwb_ok (own := "StreamTransport$Sent") (l := NWp_Snt) (by decide +kernel)
def NQp_Snt : List ((Nat × Nat) × Nat) := []
def NQ_Snt : List (Nat × Nat) := []
theorem nq_Snt : ∀ q ∈ NQ_Snt, ab_nqok KT CL ab_gW "StreamTransport$Sent" q.1 q.2 := ab_nqb_ok (own := "StreamTransport$Sent") (l := NQp_Snt) (by decide +kernel)
def NA_Snt : List (Nat × Nat) := [(0, 23), (0, 24), (0, 25), (1, 26), (1, 27)]
theorem na_Snt : ∀ q ∈ NA_Snt, (q.1 = 0 → ab_naok KT CL ab_gW .int q.2) ∧ (q.1 = 1 → ab_naok KT CL ab_gW .boolean q.2) ∧ (q.1 = 2 → ab_naok KT CL ab_gW .long q.2) := ab_nab_ok (by decide +kernel)
/-! StreamTransport$Sent.<init>()V -/
def y_Snt_init : MethodName := ⟨"StreamTransport$Sent", "<init>", "()V"⟩
def t_Snt_init (pc : Nat) : Option Ent :=
  bif Nat.blt pc 28 then
    (bif Nat.blt pc 14 then
      (bif Nat.blt pc 6 then
        (bif Nat.blt pc 4 then
          (bif Nat.blt pc 1 then
            (bif Nat.beq pc 0 then some (.aload_n 0, 0, 0, 0, 0) else none)
          else
            bif Nat.beq pc 1 then some (.invokespecial 3, 0, 1, 0, 0) else none)
        else
          bif Nat.blt pc 5 then
            (bif Nat.beq pc 4 then some (.aload_n 0, 0, 0, 0, 0) else none)
          else
            bif Nat.beq pc 5 then some (.iconst 1, 0, 0, 0, 1) else none)
      else
        bif Nat.blt pc 10 then
          (bif Nat.blt pc 9 then
            (bif Nat.beq pc 6 then some (.putfield 9, 8, 0, 0, 0) else none)
          else
            bif Nat.beq pc 9 then some (.aload_n 0, 0, 0, 0, 0) else none)
        else
          bif Nat.blt pc 11 then
            (bif Nat.beq pc 10 then some (.iconst (-1), 0, 0, 0, -1) else none)
          else
            bif Nat.beq pc 11 then some (.putfield 15, 8, 2, 0, 0) else none)
    else
      bif Nat.blt pc 21 then
        (bif Nat.blt pc 16 then
          (bif Nat.blt pc 15 then
            (bif Nat.beq pc 14 then some (.aload_n 0, 0, 0, 0, 0) else none)
          else
            bif Nat.beq pc 15 then some (.iconst 4, 0, 0, 0, 4) else none)
        else
          bif Nat.blt pc 18 then
            (bif Nat.beq pc 16 then some (.newarray .int, 23, 0, 0, 0) else none)
          else
            bif Nat.beq pc 18 then some (.putfield 18, 8, 3, 1, 0) else none)
      else
        bif Nat.blt pc 23 then
          (bif Nat.blt pc 22 then
            (bif Nat.beq pc 21 then some (.aload_n 0, 0, 0, 0, 0) else none)
          else
            bif Nat.beq pc 22 then some (.iconst 4, 0, 0, 0, 4) else none)
        else
          bif Nat.blt pc 25 then
            (bif Nat.beq pc 23 then some (.newarray .int, 24, 0, 0, 0) else none)
          else
            bif Nat.beq pc 25 then some (.putfield 22, 8, 4, 1, 0) else none)
  else
    bif Nat.blt pc 42 then
      (bif Nat.blt pc 35 then
        (bif Nat.blt pc 30 then
          (bif Nat.blt pc 29 then
            (bif Nat.beq pc 28 then some (.aload_n 0, 0, 0, 0, 0) else none)
          else
            bif Nat.beq pc 29 then some (.iconst 4, 0, 0, 0, 4) else none)
        else
          bif Nat.blt pc 32 then
            (bif Nat.beq pc 30 then some (.newarray .int, 25, 0, 0, 0) else none)
          else
            bif Nat.beq pc 32 then some (.putfield 25, 8, 5, 1, 0) else none)
      else
        bif Nat.blt pc 37 then
          (bif Nat.blt pc 36 then
            (bif Nat.beq pc 35 then some (.aload_n 0, 0, 0, 0, 0) else none)
          else
            bif Nat.beq pc 36 then some (.iconst 4, 0, 0, 0, 4) else none)
        else
          bif Nat.blt pc 39 then
            (bif Nat.beq pc 37 then some (.newarray .boolean, 26, 0, 0, 0) else none)
          else
            bif Nat.beq pc 39 then some (.putfield 28, 8, 6, 1, 0) else none)
    else
      bif Nat.blt pc 49 then
        (bif Nat.blt pc 44 then
          (bif Nat.blt pc 43 then
            (bif Nat.beq pc 42 then some (.aload_n 0, 0, 0, 0, 0) else none)
          else
            bif Nat.beq pc 43 then some (.iconst 4, 0, 0, 0, 4) else none)
        else
          bif Nat.blt pc 46 then
            (bif Nat.beq pc 44 then some (.newarray .boolean, 27, 0, 0, 0) else none)
          else
            bif Nat.beq pc 46 then some (.putfield 32, 8, 7, 1, 0) else none)
      else
        bif Nat.blt pc 53 then
          (bif Nat.blt pc 50 then
            (bif Nat.beq pc 49 then some (.aload_n 0, 0, 0, 0, 0) else none)
          else
            bif Nat.beq pc 50 then some (.getfield 18, 8, 3, 1, 0) else none)
        else
          bif Nat.blt pc 54 then
            (bif Nat.beq pc 53 then some (.iconst (-1), 0, 0, 0, -1) else none)
          else
            bif Nat.blt pc 57 then
              (bif Nat.beq pc 54 then some (.invokestatic 35, 156, 2, 0, 0) else none)
            else
              bif Nat.beq pc 57 then some (.return_, 0, 0, 0, 0) else none
def i_Snt_init : Nat → Option Ent := ab_tab 58 t_Snt_init
def h_Snt_init (pc : Nat) : Nat × List Bool := (0, [])
def s_Snt_init (pc : Nat) : List (Int32 × Nat) × Nat := ([], 0)
noncomputable def eV_Snt_init : Nat → List AV → Mm → Option Mm := ab_ev [(0, c_O), (156, c_Arr_fill_SLim)]
noncomputable def eI_Snt_init : Nat → List AV → Mm → Option (Int32 × Mm) := ab_ev []
noncomputable def b_Snt_init_0 (f : Nat) (v0 : Nat) (m : Mm) : Option Rs := ab_ex KT none s_Snt_init eV_Snt_init eI_Snt_init i_Snt_init h_Snt_init f 0 [some (.inr (.inr (82, some v0)))] [] m
set_option maxRecDepth 100000 in
set_option maxHeartbeats 4000000 in
theorem b_Snt_init_0_eq (f : Nat) (v0 : Nat) (m : Mm) : b_Snt_init_0 (f + 1) v0 m =
    ab_let (ab_uI m 68 v0 0 (1 : Int32)) fun m1 =>
    ab_let (ab_uI m1 70 v0 0 (-1 : Int32)) fun m2 =>
    if (4 : Int32) = Int32.ofNat 4 then
    ab_let m2.2.2.2.1.length fun n4 =>
    ab_let (ab_ap m2 23) fun m3 =>
    ab_let (ab_uR m3 71 v0 0 (some n4)) fun m5 =>
    if (4 : Int32) = Int32.ofNat 4 then
    ab_let m5.2.2.2.1.length fun n7 =>
    ab_let (ab_ap m5 24) fun m6 =>
    ab_let (ab_uR m6 72 v0 0 (some n7)) fun m8 =>
    if (4 : Int32) = Int32.ofNat 4 then
    ab_let m8.2.2.2.1.length fun n10 =>
    ab_let (ab_ap m8 25) fun m9 =>
    ab_let (ab_uR m9 73 v0 0 (some n10)) fun m11 =>
    if (4 : Int32) = Int32.ofNat 4 then
    ab_let m11.2.2.2.1.length fun n13 =>
    ab_let (ab_ap m11 26) fun m12 =>
    ab_let (ab_uR m12 74 v0 0 (some n13)) fun m14 =>
    if (4 : Int32) = Int32.ofNat 4 then
    ab_let m14.2.2.2.1.length fun n16 =>
    ab_let (ab_ap m14 27) fun m15 =>
    ab_let (ab_uR m15 75 v0 0 (some n16)) fun m17 =>
    ((m17.2.2.1 71 v0 0).bind fun q18 => r_Arr_fill_SLim q18 (-1 : Int32) m17).bind fun m19 =>
    some (.inl (none, m19))
    else none
    else none
    else none
    else none
    else none := rfl
noncomputable def r_Snt_init : Nat → Mm → Option Mm := ab_seal fun v0 m => ab_rV (b_Snt_init_0 50000 v0 m)
theorem r_Snt_init_eq (v0 : Nat) (m : Mm) : r_Snt_init v0 m = ab_rV (b_Snt_init_0 50000 v0 m) := by
  unfold r_Snt_init
  rw [ab_seal_eq]
noncomputable def c_Snt_init : List AV → Mm → Option Mm := fun av m => match av with
  | [.inr (.inr (kv0, ov0))] => if kv0 = 82 then (ov0.bind fun v0 => r_Snt_init v0 m) else none
  | _ => none
theorem c_Snt_init_inv {av : List AV} {m : Mm} {r : Mm} (h : c_Snt_init av m = some r) : ∃ (v0 : Nat), av = [.inr (.inr (82, some v0))] ∧ r_Snt_init v0 m = some r := by
  unfold c_Snt_init at h
  split at h
  · rename_i kv0 ov0
    by_cases hkv0 : kv0 = 82
    case neg => rw [if_neg hkv0] at h; cases h
    rw [if_pos hkv0] at h
    subst hkv0
    obtain ⟨v0, hev0, h⟩ := Option.bind_eq_some_iff.mp h
    subst hev0
    exact ⟨v0, rfl, h⟩
  · cases h
def cs_Snt_init : List Nat := [1, 54]
set_option maxRecDepth 100000 in
theorem E_Snt_init : ∀ (pc : Nat) (q : Ent), i_Snt_init pc = some q → ab_E KT CL ab_gW "StreamTransport$Sent" "<init>" none prog_10_method_1_code s_Snt_init 1 pc q.1 q.2.1 q.2.2.1 q.2.2.2.1 q.2.2.2.2 := fun pc q hq =>
  ab_Eb_ok lc_Snt lj_Snt fl_Snt fpi_Snt nw_Snt na_Snt nq_Snt (ab_tab_all (t := t_Snt_init) (chk := fun pc q => ab_Eb none prog_10_method_1_code s_Snt_init 1 LC_Snt LJ_Snt FL_Snt FPi_Snt NW_Snt NA_Snt NQ_Snt pc q.1 q.2.1 q.2.2.1 q.2.2.2.1 q.2.2.2.2) (by decide +kernel) hq)
set_option maxRecDepth 100000 in
theorem mo_Snt_init {av : List AV} {m : Mm} {r : Mm} (h : c_Snt_init av m = some r) : ab_mo m r := by
  obtain ⟨v0, -, h⟩ := c_Snt_init_inv h
  rw [r_Snt_init_eq] at h
  have hV : ∀ a av m m', eV_Snt_init a av m = some m' → ab_mo m m' := ab_ev_all (P := fun _ m r => ab_mo m r) [(0, c_O), (156, c_Arr_fill_SLim)] (List.forall_mem_cons.mpr ⟨fun av m r h => ab_kp_mo (kp_O h), List.forall_mem_cons.mpr ⟨fun av m r h => ab_kp_mo (kp_Arr_fill_SLim h), fun q hq => by cases hq⟩⟩)
  have hI : ∀ a av m q, eI_Snt_init a av m = some q → ab_mo m q.2 := ab_ev_all (P := fun _ (m : Mm) (r : Int32 × Mm) => ab_mo m r.2) [] (fun q hq => by cases hq)
  exact ab_morel (ρ := .inl (none, r)) hV hI (ab_rV_inv h)
set_option maxRecDepth 100000 in
theorem cl_Snt_init (l : Launch) : ∀ (pc : Nat) (q : Ent), i_Snt_init pc = some q → ab_inv q.1 = true → ab_CR l KT CL none ab_gW "StreamTransport$Sent" prog_10_method_1_code 1 1 23 eV_Snt_init eI_Snt_init pc q := by
  intro pc q hq hi
  have hm : pc ∈ cs_Snt_init := ab_tab_cs (t := t_Snt_init) (by decide +kernel) hq hi
  simp only [cs_Snt_init, List.mem_cons, List.not_mem_nil, or_false] at hm
  rcases hm with rfl | rfl
  · cases (Option.some.inj hq : ((.invokespecial 3, 0, 1, 0, 0) : Ent) = q)
    exact ab_crO (by decide +kernel) (ab_gW_in 406 (by decide +kernel) rfl) ab_oI ab_oC (by decide) (by decide) (fun av m m' h => c_O_inv h) (fun av m => rfl)
  · cases (Option.some.inj hq : ((.invokestatic 35, 156, 2, 0, 0) : Ent) = q)
    exact ab_crS (by decide +kernel) cw_Arr_fill_SLim (ab_gW_in 407 (by decide +kernel) rfl) st_Arr_fill_SLim (by decide) (fun av m m' h => cm_Arr_fill_SLim l h) (fun av m r h => by cases h) KT_nd
theorem cw_Snt_init : ab_cw y_Snt_init prog_10_method_1_code 1 0 none := ⟨ab_gW_in 405 (by decide +kernel) rfl, ab_gW_in 80 (by decide +kernel) rfl, by decide +kernel, by decide +kernel, by decide +kernel⟩
theorem is_Snt_init : Cond.instanceMethod y_Snt_init ∈ ab_gW := ab_gW_in 404 (by decide +kernel) rfl
set_option maxRecDepth 100000 in
theorem cm_Snt_init (l : Launch) {av : List AV} {m : Mm} {r : Mm} (h0 : c_Snt_init av m = some r) : ∃ (k q : Nat) (av' : List AV), av = .inr (.inr (k, some q)) :: av' ∧ av'.length = 0 ∧ k ≠ 0 ∧ ab_nos av' ∧ ab_Met l KT CL y_Snt_init (Cond.code y_Snt_init prog_10_method_1_code 1 none :: ab_gW) 1 23 none av m none r := by
  obtain ⟨v0, hav, h⟩ := c_Snt_init_inv h0
  rw [r_Snt_init_eq] at h
  have hmo : ab_mo m r := mo_Snt_init h0
  subst hav
  exact ⟨_, _, _, rfl, rfl, by decide, (by intro v hv q e; subst e; simp at hv), ab_met (by decide +kernel) KT_0 KT_nd KT_k3 E_Snt_init (cl_Snt_init l) hmo (Nat.le_of_ble_eq_true rfl) (ab_rV_inv h) (fun v hv => by cases hv)⟩
end
