section
/-! StreamTransportLaw.write(LStreamTransport;IIIJ[J)I -/
def y_Law_wr : MethodName := ⟨"StreamTransportLaw", "write", "(LStreamTransport;IIIJ[J)I"⟩
def t_Law_wr (pc : Nat) : Option Ent :=
  bif Nat.blt pc 7 then
    (bif Nat.blt pc 4 then
      (bif Nat.blt pc 2 then
        (bif Nat.beq pc 0 then some (.aload 6, 6, 0, 0, 0) else none)
      else
        bif Nat.blt pc 3 then
          (bif Nat.beq pc 2 then some (.iconst 0, 0, 0, 0, 0) else none)
        else
          bif Nat.beq pc 3 then some (.aload_n 0, 0, 0, 0, 0) else none)
    else
      bif Nat.blt pc 5 then
        (bif Nat.beq pc 4 then some (.iload_n 1, 1, 0, 0, 0) else none)
      else
        bif Nat.blt pc 6 then
          (bif Nat.beq pc 5 then some (.iload_n 2, 2, 0, 0, 0) else none)
        else
          bif Nat.beq pc 6 then some (.iload_n 3, 3, 0, 0, 0) else none)
  else
    bif Nat.blt pc 13 then
      (bif Nat.blt pc 9 then
        (bif Nat.beq pc 7 then some (.lload 4, 4, 0, 0, 0) else none)
      else
        bif Nat.blt pc 12 then
          (bif Nat.beq pc 9 then some (.invokevirtual 7, 170, 5, 1, 0) else none)
        else
          bif Nat.beq pc 12 then some (.i2l, 0, 0, 0, 0) else none)
    else
      bif Nat.blt pc 25 then
        (bif Nat.blt pc 14 then
          (bif Nat.beq pc 13 then some (.lastore, 0, 0, 0, 0) else none)
        else
          bif Nat.beq pc 14 then some (.goto 11, 25, 0, 0, 0) else none)
      else
        bif Nat.blt pc 26 then
          (bif Nat.beq pc 25 then some (.iconst 0, 0, 0, 0, 0) else none)
        else
          bif Nat.beq pc 26 then some (.ireturn, 0, 0, 0, 0) else none
def i_Law_wr : Nat → Option Ent := ab_tab 27 t_Law_wr
def h_Law_wr (pc : Nat) : Nat × List Bool := (0, [])
def s_Law_wr (pc : Nat) : List (Int32 × Nat) × Nat := ([], 0)
noncomputable def eV_Law_wr : Nat → List AV → Mm → Option Mm := ab_ev []
noncomputable def eI_Law_wr : Nat → List AV → Mm → Option (Int32 × Mm) := ab_ev [(170, c_X_write)]
noncomputable def b_Law_wr_0 (f : Nat) (v0 : Nat) (v1 : Int32) (v2 : Int32) (v3 : Int32) (v4 : Int64) (v6 : Nat) (m : Mm) : Option Rs := ab_ex KT none s_Law_wr eV_Law_wr eI_Law_wr i_Law_wr h_Law_wr f 0 [some (.inr (.inr (1, some v0))), some (.inl v1), some (.inl v2), some (.inl v3), some (.inr (.inl v4)), none, some (.inr (.inr (68, some v6))), none] [] m
set_option maxRecDepth 100000 in
set_option maxHeartbeats 4000000 in
theorem b_Law_wr_0_eq (f : Nat) (v0 : Nat) (v1 : Int32) (v2 : Int32) (v3 : Int32) (v4 : Int64) (v6 : Nat) (m : Mm) : b_Law_wr_0 (f + 1) v0 v1 v2 v3 v4 v6 m =
    (r_X_write v0 v1 v2 v3 v4 m).bind fun z1 =>
    (ab_ix (0 : Int32) 1).bind fun i2 =>
    ab_let (ab_uJ z1.2 172 v6 i2 ((z1.1).toInt64)) fun m3 =>
    some (.inl (some (.inl (0 : Int32)), m3)) := rfl
noncomputable def r_Law_wr : Nat → Int32 → Int32 → Int32 → Int64 → Nat → Mm → Option (Int32 × Mm) := ab_seal fun v0 v1 v2 v3 v4 v6 m => ab_rI (b_Law_wr_0 50000 v0 v1 v2 v3 v4 v6 m)
theorem r_Law_wr_eq (v0 : Nat) (v1 : Int32) (v2 : Int32) (v3 : Int32) (v4 : Int64) (v6 : Nat) (m : Mm) : r_Law_wr v0 v1 v2 v3 v4 v6 m = ab_rI (b_Law_wr_0 50000 v0 v1 v2 v3 v4 v6 m) := by
  unfold r_Law_wr
  rw [ab_seal_eq]
noncomputable def c_Law_wr : List AV → Mm → Option (Int32 × Mm) := fun av m => match av with
  | [.inr (.inr (kv0, ov0)), .inl v1, .inl v2, .inl v3, .inr (.inl v4), .inr (.inr (kv6, ov6))] => if kv0 = 1 then (if kv6 = 68 then (ov0.bind fun v0 => ov6.bind fun v6 => r_Law_wr v0 v1 v2 v3 v4 v6 m) else none) else none
  | _ => none
theorem c_Law_wr_inv {av : List AV} {m : Mm} {r : Int32 × Mm} (h : c_Law_wr av m = some r) : ∃ (v0 : Nat) (v1 : Int32) (v2 : Int32) (v3 : Int32) (v4 : Int64) (v6 : Nat), av = [.inr (.inr (1, some v0)), .inl v1, .inl v2, .inl v3, .inr (.inl v4), .inr (.inr (68, some v6))] ∧ r_Law_wr v0 v1 v2 v3 v4 v6 m = some r := by
  unfold c_Law_wr at h
  split at h
  · rename_i kv0 ov0 v1 v2 v3 v4 kv6 ov6
    by_cases hkv0 : kv0 = 1
    case neg => rw [if_neg hkv0] at h; cases h
    rw [if_pos hkv0] at h
    subst hkv0
    by_cases hkv6 : kv6 = 68
    case neg => rw [if_neg hkv6] at h; cases h
    rw [if_pos hkv6] at h
    subst hkv6
    obtain ⟨v0, hev0, h⟩ := Option.bind_eq_some_iff.mp h
    obtain ⟨v6, hev6, h⟩ := Option.bind_eq_some_iff.mp h
    subst hev0
    subst hev6
    exact ⟨v0, v1, v2, v3, v4, v6, rfl, h⟩
  · cases h
def cs_Law_wr : List Nat := [9]
set_option maxRecDepth 100000 in
theorem E_Law_wr : ∀ (pc : Nat) (q : Ent), i_Law_wr pc = some q → ab_E KT CL ab_gW "StreamTransportLaw" "write" (some .int) method_3_code s_Law_wr 8 pc q.1 q.2.1 q.2.2.1 q.2.2.2.1 q.2.2.2.2 := fun pc q hq =>
  ab_Eb_ok lc_Law lj_Law fl_Law (fpn_Law "write") nw_Law na_Law nq_Law (ab_tab_all (t := t_Law_wr) (chk := fun pc q => ab_Eb (some .int) method_3_code s_Law_wr 8 LC_Law LJ_Law FL_Law FPn_Law NW_Law NA_Law NQ_Law pc q.1 q.2.1 q.2.2.1 q.2.2.2.1 q.2.2.2.2) (by decide +kernel) hq)
set_option maxRecDepth 100000 in
theorem kp_Law_wr {av : List AV} {m : Mm} {r : Int32 × Mm} (h : c_Law_wr av m = some r) : ab_kp m r.2 := by
  obtain ⟨v0, v1, v2, v3, v4, v6, -, h⟩ := c_Law_wr_inv h
  rw [r_Law_wr_eq] at h
  have hV : ∀ a av m m', eV_Law_wr a av m = some m' → ab_kp m m' := ab_ev_all (P := fun _ m r => ab_kp m r) [] (fun q hq => by cases hq)
  have hI : ∀ a av m q, eI_Law_wr a av m = some q → ab_kp m q.2 := ab_ev_all (P := fun _ (m : Mm) (r : Int32 × Mm) => ab_kp m r.2) [(170, c_X_write)] (List.forall_mem_cons.mpr ⟨fun av m r h => kp_X_write h, fun q hq => by cases hq⟩)
  exact ab_kprel (ρ := .inl (some (.inl r.1), r.2)) (ab_tab_isn (t := t_Law_wr) (by decide +kernel)) hV hI (ab_rI_inv h)
set_option maxRecDepth 100000 in
theorem cl_Law_wr (l : Launch) : ∀ (pc : Nat) (q : Ent), i_Law_wr pc = some q → ab_inv q.1 = true → ab_CR l KT CL none ab_gW "StreamTransportLaw" method_3_code 8 7 126 eV_Law_wr eI_Law_wr pc q := by
  intro pc q hq hi
  have hm : pc ∈ cs_Law_wr := ab_tab_cs (t := t_Law_wr) (by decide +kernel) hq hi
  simp only [cs_Law_wr, List.mem_cons, List.not_mem_nil, or_false] at hm
  rcases hm with rfl
  · cases (Option.some.inj hq : ((.invokevirtual 7, 170, 5, 1, 0) : Ent) = q)
    exact ab_crV (C := "StreamTransport") (by decide +kernel) cw_X_write (ab_gW_in 845 (by decide +kernel) rfl) is_X_write sl_X_write (by decide) (fun av m m' h => by cases h) (fun av m r h => cm_X_write l h) KT_nd
/-! StreamTransportLaw.write(LStreamTransport;IIIJ[J)I -/
def y_Law_wp : MethodName := ⟨"StreamTransportLaw", "write", "(LStreamTransport;IIIJ[J)I"⟩
def t_Law_wp (pc : Nat) : Option Ent :=
  bif Nat.blt pc 4 then
    (bif Nat.blt pc 2 then
      (bif Nat.beq pc 0 then some (.aload 6, 6, 0, 0, 0) else none)
    else
      bif Nat.blt pc 3 then
        (bif Nat.beq pc 2 then some (.iconst 0, 0, 0, 0, 0) else none)
      else
        bif Nat.beq pc 3 then some (.aload_n 0, 0, 0, 0, 0) else none)
  else
    bif Nat.blt pc 6 then
      (bif Nat.blt pc 5 then
        (bif Nat.beq pc 4 then some (.iload_n 1, 1, 0, 0, 0) else none)
      else
        bif Nat.beq pc 5 then some (.iload_n 2, 2, 0, 0, 0) else none)
    else
      bif Nat.blt pc 7 then
        (bif Nat.beq pc 6 then some (.iload_n 3, 3, 0, 0, 0) else none)
      else
        bif Nat.beq pc 7 then some (.lload 4, 4, 0, 0, 0) else none
def i_Law_wp : Nat → Option Ent := ab_tab 27 t_Law_wp
def h_Law_wp (pc : Nat) : Nat × List Bool := bif Nat.beq pc 9 then (2, []) else (0, [])
def s_Law_wp (pc : Nat) : List (Int32 × Nat) × Nat := ([], 0)
noncomputable def eV_Law_wp : Nat → List AV → Mm → Option Mm := ab_ev []
noncomputable def eI_Law_wp : Nat → List AV → Mm → Option (Int32 × Mm) := ab_ev []
noncomputable def b_Law_wp_0 (f : Nat) (v0 : Nat) (v1 : Int32) (v2 : Int32) (v3 : Int32) (v4 : Int64) (v6 : Nat) (m : Mm) : Option Rs := ab_ex KT none s_Law_wp eV_Law_wp eI_Law_wp i_Law_wp h_Law_wp f 0 [some (.inr (.inr (1, some v0))), some (.inl v1), some (.inl v2), some (.inl v3), some (.inr (.inl v4)), none, some (.inr (.inr (68, some v6))), none] [] m
set_option maxRecDepth 100000 in
set_option maxHeartbeats 4000000 in
theorem b_Law_wp_0_eq (f : Nat) (v0 : Nat) (v1 : Int32) (v2 : Int32) (v3 : Int32) (v4 : Int64) (v6 : Nat) (m : Mm) : b_Law_wp_0 (f + 1) v0 v1 v2 v3 v4 v6 m =
    some (.inr (9, [some (.inr (.inr (1, some v0))), some (.inl v1), some (.inl v2), some (.inl v3), some (.inr (.inl v4)), none, some (.inr (.inr (68, some v6))), none], [.inr (.inl v4), .inl v3, .inl v2, .inl v1, .inr (.inr (1, some v0)), .inl (0 : Int32), .inr (.inr (68, some v6))], m)) := rfl
noncomputable def r_Law_wp : Nat → Int32 → Int32 → Int32 → Int64 → Nat → Mm → Option (Int32 × Mm) := ab_seal fun v0 v1 v2 v3 v4 v6 m => ab_rI (b_Law_wp_0 50000 v0 v1 v2 v3 v4 v6 m)
theorem r_Law_wp_eq (v0 : Nat) (v1 : Int32) (v2 : Int32) (v3 : Int32) (v4 : Int64) (v6 : Nat) (m : Mm) : r_Law_wp v0 v1 v2 v3 v4 v6 m = ab_rI (b_Law_wp_0 50000 v0 v1 v2 v3 v4 v6 m) := by
  unfold r_Law_wp
  rw [ab_seal_eq]
noncomputable def c_Law_wp : List AV → Mm → Option (Int32 × Mm) := fun av m => match av with
  | [.inr (.inr (kv0, ov0)), .inl v1, .inl v2, .inl v3, .inr (.inl v4), .inr (.inr (kv6, ov6))] => if kv0 = 1 then (if kv6 = 68 then (ov0.bind fun v0 => ov6.bind fun v6 => r_Law_wp v0 v1 v2 v3 v4 v6 m) else none) else none
  | _ => none
theorem c_Law_wp_inv {av : List AV} {m : Mm} {r : Int32 × Mm} (h : c_Law_wp av m = some r) : ∃ (v0 : Nat) (v1 : Int32) (v2 : Int32) (v3 : Int32) (v4 : Int64) (v6 : Nat), av = [.inr (.inr (1, some v0)), .inl v1, .inl v2, .inl v3, .inr (.inl v4), .inr (.inr (68, some v6))] ∧ r_Law_wp v0 v1 v2 v3 v4 v6 m = some r := by
  unfold c_Law_wp at h
  split at h
  · rename_i kv0 ov0 v1 v2 v3 v4 kv6 ov6
    by_cases hkv0 : kv0 = 1
    case neg => rw [if_neg hkv0] at h; cases h
    rw [if_pos hkv0] at h
    subst hkv0
    by_cases hkv6 : kv6 = 68
    case neg => rw [if_neg hkv6] at h; cases h
    rw [if_pos hkv6] at h
    subst hkv6
    obtain ⟨v0, hev0, h⟩ := Option.bind_eq_some_iff.mp h
    obtain ⟨v6, hev6, h⟩ := Option.bind_eq_some_iff.mp h
    subst hev0
    subst hev6
    exact ⟨v0, v1, v2, v3, v4, v6, rfl, h⟩
  · cases h
def cs_Law_wp : List Nat := []
set_option maxRecDepth 100000 in
theorem E_Law_wp : ∀ (pc : Nat) (q : Ent), i_Law_wp pc = some q → ab_E KT CL ab_gW "StreamTransportLaw" "write" (some .int) method_3_code s_Law_wp 8 pc q.1 q.2.1 q.2.2.1 q.2.2.2.1 q.2.2.2.2 := fun pc q hq =>
  ab_Eb_ok lc_Law lj_Law fl_Law (fpn_Law "write") nw_Law na_Law nq_Law (ab_tab_all (t := t_Law_wp) (chk := fun pc q => ab_Eb (some .int) method_3_code s_Law_wp 8 LC_Law LJ_Law FL_Law FPn_Law NW_Law NA_Law NQ_Law pc q.1 q.2.1 q.2.2.1 q.2.2.2.1 q.2.2.2.2) (by decide +kernel) hq)
set_option maxRecDepth 100000 in
theorem kp_Law_wp {av : List AV} {m : Mm} {r : Int32 × Mm} (h : c_Law_wp av m = some r) : ab_kp m r.2 := by
  obtain ⟨v0, v1, v2, v3, v4, v6, -, h⟩ := c_Law_wp_inv h
  rw [r_Law_wp_eq] at h
  have hV : ∀ a av m m', eV_Law_wp a av m = some m' → ab_kp m m' := ab_ev_all (P := fun _ m r => ab_kp m r) [] (fun q hq => by cases hq)
  have hI : ∀ a av m q, eI_Law_wp a av m = some q → ab_kp m q.2 := ab_ev_all (P := fun _ (m : Mm) (r : Int32 × Mm) => ab_kp m r.2) [] (fun q hq => by cases hq)
  exact ab_kprel (ρ := .inl (some (.inl r.1), r.2)) (ab_tab_isn (t := t_Law_wp) (by decide +kernel)) hV hI (ab_rI_inv h)
set_option maxRecDepth 100000 in
theorem cl_Law_wp (l : Launch) : ∀ (pc : Nat) (q : Ent), i_Law_wp pc = some q → ab_inv q.1 = true → ab_CR l KT CL none ab_gW "StreamTransportLaw" method_3_code 8 0 0 eV_Law_wp eI_Law_wp pc q := by
  intro pc q hq hi
  have hm : pc ∈ cs_Law_wp := ab_tab_cs (t := t_Law_wp) (by decide +kernel) hq hi
  cases hm
/-! StreamTransportLaw.read(LStreamTransport;II[J)I -/
def y_Law_rr : MethodName := ⟨"StreamTransportLaw", "read", "(LStreamTransport;II[J)I"⟩
def t_Law_rr (pc : Nat) : Option Ent :=
  bif Nat.blt pc 5 then
    (bif Nat.blt pc 2 then
      (bif Nat.blt pc 1 then
        (bif Nat.beq pc 0 then some (.aload_n 3, 3, 0, 0, 0) else none)
      else
        bif Nat.beq pc 1 then some (.iconst 0, 0, 0, 0, 0) else none)
    else
      bif Nat.blt pc 3 then
        (bif Nat.beq pc 2 then some (.aload_n 0, 0, 0, 0, 0) else none)
      else
        bif Nat.blt pc 4 then
          (bif Nat.beq pc 3 then some (.iload_n 1, 1, 0, 0, 0) else none)
        else
          bif Nat.beq pc 4 then some (.iload_n 2, 2, 0, 0, 0) else none)
  else
    bif Nat.blt pc 10 then
      (bif Nat.blt pc 8 then
        (bif Nat.beq pc 5 then some (.invokevirtual 17, 171, 3, 1, 0) else none)
      else
        bif Nat.blt pc 9 then
          (bif Nat.beq pc 8 then some (.i2l, 0, 0, 0, 0) else none)
        else
          bif Nat.beq pc 9 then some (.lastore, 0, 0, 0, 0) else none)
    else
      bif Nat.blt pc 29 then
        (bif Nat.beq pc 10 then some (.goto 19, 29, 0, 0, 0) else none)
      else
        bif Nat.blt pc 30 then
          (bif Nat.beq pc 29 then some (.iconst 0, 0, 0, 0, 0) else none)
        else
          bif Nat.beq pc 30 then some (.ireturn, 0, 0, 0, 0) else none
def i_Law_rr : Nat → Option Ent := ab_tab 31 t_Law_rr
def h_Law_rr (pc : Nat) : Nat × List Bool := (0, [])
def s_Law_rr (pc : Nat) : List (Int32 × Nat) × Nat := ([], 0)
noncomputable def eV_Law_rr : Nat → List AV → Mm → Option Mm := ab_ev []
noncomputable def eI_Law_rr : Nat → List AV → Mm → Option (Int32 × Mm) := ab_ev [(171, c_X_read)]
noncomputable def b_Law_rr_0 (f : Nat) (v0 : Nat) (v1 : Int32) (v2 : Int32) (v3 : Nat) (m : Mm) : Option Rs := ab_ex KT none s_Law_rr eV_Law_rr eI_Law_rr i_Law_rr h_Law_rr f 0 [some (.inr (.inr (1, some v0))), some (.inl v1), some (.inl v2), some (.inr (.inr (68, some v3))), none] [] m
set_option maxRecDepth 100000 in
set_option maxHeartbeats 4000000 in
theorem b_Law_rr_0_eq (f : Nat) (v0 : Nat) (v1 : Int32) (v2 : Int32) (v3 : Nat) (m : Mm) : b_Law_rr_0 (f + 1) v0 v1 v2 v3 m =
    (r_X_read v0 v1 v2 m).bind fun z1 =>
    (ab_ix (0 : Int32) 1).bind fun i2 =>
    ab_let (ab_uJ z1.2 172 v3 i2 ((z1.1).toInt64)) fun m3 =>
    some (.inl (some (.inl (0 : Int32)), m3)) := rfl
noncomputable def r_Law_rr : Nat → Int32 → Int32 → Nat → Mm → Option (Int32 × Mm) := ab_seal fun v0 v1 v2 v3 m => ab_rI (b_Law_rr_0 50000 v0 v1 v2 v3 m)
theorem r_Law_rr_eq (v0 : Nat) (v1 : Int32) (v2 : Int32) (v3 : Nat) (m : Mm) : r_Law_rr v0 v1 v2 v3 m = ab_rI (b_Law_rr_0 50000 v0 v1 v2 v3 m) := by
  unfold r_Law_rr
  rw [ab_seal_eq]
noncomputable def c_Law_rr : List AV → Mm → Option (Int32 × Mm) := fun av m => match av with
  | [.inr (.inr (kv0, ov0)), .inl v1, .inl v2, .inr (.inr (kv3, ov3))] => if kv0 = 1 then (if kv3 = 68 then (ov0.bind fun v0 => ov3.bind fun v3 => r_Law_rr v0 v1 v2 v3 m) else none) else none
  | _ => none
theorem c_Law_rr_inv {av : List AV} {m : Mm} {r : Int32 × Mm} (h : c_Law_rr av m = some r) : ∃ (v0 : Nat) (v1 : Int32) (v2 : Int32) (v3 : Nat), av = [.inr (.inr (1, some v0)), .inl v1, .inl v2, .inr (.inr (68, some v3))] ∧ r_Law_rr v0 v1 v2 v3 m = some r := by
  unfold c_Law_rr at h
  split at h
  · rename_i kv0 ov0 v1 v2 kv3 ov3
    by_cases hkv0 : kv0 = 1
    case neg => rw [if_neg hkv0] at h; cases h
    rw [if_pos hkv0] at h
    subst hkv0
    by_cases hkv3 : kv3 = 68
    case neg => rw [if_neg hkv3] at h; cases h
    rw [if_pos hkv3] at h
    subst hkv3
    obtain ⟨v0, hev0, h⟩ := Option.bind_eq_some_iff.mp h
    obtain ⟨v3, hev3, h⟩ := Option.bind_eq_some_iff.mp h
    subst hev0
    subst hev3
    exact ⟨v0, v1, v2, v3, rfl, h⟩
  · cases h
def cs_Law_rr : List Nat := [5]
set_option maxRecDepth 100000 in
theorem E_Law_rr : ∀ (pc : Nat) (q : Ent), i_Law_rr pc = some q → ab_E KT CL ab_gW "StreamTransportLaw" "read" (some .int) method_4_code s_Law_rr 5 pc q.1 q.2.1 q.2.2.1 q.2.2.2.1 q.2.2.2.2 := fun pc q hq =>
  ab_Eb_ok lc_Law lj_Law fl_Law (fpn_Law "read") nw_Law na_Law nq_Law (ab_tab_all (t := t_Law_rr) (chk := fun pc q => ab_Eb (some .int) method_4_code s_Law_rr 5 LC_Law LJ_Law FL_Law FPn_Law NW_Law NA_Law NQ_Law pc q.1 q.2.1 q.2.2.1 q.2.2.2.1 q.2.2.2.2) (by decide +kernel) hq)
set_option maxRecDepth 100000 in
theorem kp_Law_rr {av : List AV} {m : Mm} {r : Int32 × Mm} (h : c_Law_rr av m = some r) : ab_kp m r.2 := by
  obtain ⟨v0, v1, v2, v3, -, h⟩ := c_Law_rr_inv h
  rw [r_Law_rr_eq] at h
  have hV : ∀ a av m m', eV_Law_rr a av m = some m' → ab_kp m m' := ab_ev_all (P := fun _ m r => ab_kp m r) [] (fun q hq => by cases hq)
  have hI : ∀ a av m q, eI_Law_rr a av m = some q → ab_kp m q.2 := ab_ev_all (P := fun _ (m : Mm) (r : Int32 × Mm) => ab_kp m r.2) [(171, c_X_read)] (List.forall_mem_cons.mpr ⟨fun av m r h => kp_X_read h, fun q hq => by cases hq⟩)
  exact ab_kprel (ρ := .inl (some (.inl r.1), r.2)) (ab_tab_isn (t := t_Law_rr) (by decide +kernel)) hV hI (ab_rI_inv h)
set_option maxRecDepth 100000 in
theorem cl_Law_rr (l : Launch) : ∀ (pc : Nat) (q : Ent), i_Law_rr pc = some q → ab_inv q.1 = true → ab_CR l KT CL none ab_gW "StreamTransportLaw" method_4_code 5 7 123 eV_Law_rr eI_Law_rr pc q := by
  intro pc q hq hi
  have hm : pc ∈ cs_Law_rr := ab_tab_cs (t := t_Law_rr) (by decide +kernel) hq hi
  simp only [cs_Law_rr, List.mem_cons, List.not_mem_nil, or_false] at hm
  rcases hm with rfl
  · cases (Option.some.inj hq : ((.invokevirtual 17, 171, 3, 1, 0) : Ent) = q)
    exact ab_crV (C := "StreamTransport") (by decide +kernel) cw_X_read (ab_gW_in 938 (by decide +kernel) rfl) is_X_read sl_X_read (by decide) (fun av m m' h => by cases h) (fun av m r h => cm_X_read l h) KT_nd
/-! StreamTransportLaw.read(LStreamTransport;II[J)I -/
def y_Law_rp : MethodName := ⟨"StreamTransportLaw", "read", "(LStreamTransport;II[J)I"⟩
def t_Law_rp (pc : Nat) : Option Ent :=
  bif Nat.blt pc 2 then
    (bif Nat.blt pc 1 then
      (bif Nat.beq pc 0 then some (.aload_n 3, 3, 0, 0, 0) else none)
    else
      bif Nat.beq pc 1 then some (.iconst 0, 0, 0, 0, 0) else none)
  else
    bif Nat.blt pc 3 then
      (bif Nat.beq pc 2 then some (.aload_n 0, 0, 0, 0, 0) else none)
    else
      bif Nat.blt pc 4 then
        (bif Nat.beq pc 3 then some (.iload_n 1, 1, 0, 0, 0) else none)
      else
        bif Nat.beq pc 4 then some (.iload_n 2, 2, 0, 0, 0) else none
def i_Law_rp : Nat → Option Ent := ab_tab 31 t_Law_rp
def h_Law_rp (pc : Nat) : Nat × List Bool := bif Nat.beq pc 5 then (2, []) else (0, [])
def s_Law_rp (pc : Nat) : List (Int32 × Nat) × Nat := ([], 0)
noncomputable def eV_Law_rp : Nat → List AV → Mm → Option Mm := ab_ev []
noncomputable def eI_Law_rp : Nat → List AV → Mm → Option (Int32 × Mm) := ab_ev []
noncomputable def b_Law_rp_0 (f : Nat) (v0 : Nat) (v1 : Int32) (v2 : Int32) (v3 : Nat) (m : Mm) : Option Rs := ab_ex KT none s_Law_rp eV_Law_rp eI_Law_rp i_Law_rp h_Law_rp f 0 [some (.inr (.inr (1, some v0))), some (.inl v1), some (.inl v2), some (.inr (.inr (68, some v3))), none] [] m
set_option maxRecDepth 100000 in
set_option maxHeartbeats 4000000 in
theorem b_Law_rp_0_eq (f : Nat) (v0 : Nat) (v1 : Int32) (v2 : Int32) (v3 : Nat) (m : Mm) : b_Law_rp_0 (f + 1) v0 v1 v2 v3 m =
    some (.inr (5, [some (.inr (.inr (1, some v0))), some (.inl v1), some (.inl v2), some (.inr (.inr (68, some v3))), none], [.inl v2, .inl v1, .inr (.inr (1, some v0)), .inl (0 : Int32), .inr (.inr (68, some v3))], m)) := rfl
noncomputable def r_Law_rp : Nat → Int32 → Int32 → Nat → Mm → Option (Int32 × Mm) := ab_seal fun v0 v1 v2 v3 m => ab_rI (b_Law_rp_0 50000 v0 v1 v2 v3 m)
theorem r_Law_rp_eq (v0 : Nat) (v1 : Int32) (v2 : Int32) (v3 : Nat) (m : Mm) : r_Law_rp v0 v1 v2 v3 m = ab_rI (b_Law_rp_0 50000 v0 v1 v2 v3 m) := by
  unfold r_Law_rp
  rw [ab_seal_eq]
noncomputable def c_Law_rp : List AV → Mm → Option (Int32 × Mm) := fun av m => match av with
  | [.inr (.inr (kv0, ov0)), .inl v1, .inl v2, .inr (.inr (kv3, ov3))] => if kv0 = 1 then (if kv3 = 68 then (ov0.bind fun v0 => ov3.bind fun v3 => r_Law_rp v0 v1 v2 v3 m) else none) else none
  | _ => none
theorem c_Law_rp_inv {av : List AV} {m : Mm} {r : Int32 × Mm} (h : c_Law_rp av m = some r) : ∃ (v0 : Nat) (v1 : Int32) (v2 : Int32) (v3 : Nat), av = [.inr (.inr (1, some v0)), .inl v1, .inl v2, .inr (.inr (68, some v3))] ∧ r_Law_rp v0 v1 v2 v3 m = some r := by
  unfold c_Law_rp at h
  split at h
  · rename_i kv0 ov0 v1 v2 kv3 ov3
    by_cases hkv0 : kv0 = 1
    case neg => rw [if_neg hkv0] at h; cases h
    rw [if_pos hkv0] at h
    subst hkv0
    by_cases hkv3 : kv3 = 68
    case neg => rw [if_neg hkv3] at h; cases h
    rw [if_pos hkv3] at h
    subst hkv3
    obtain ⟨v0, hev0, h⟩ := Option.bind_eq_some_iff.mp h
    obtain ⟨v3, hev3, h⟩ := Option.bind_eq_some_iff.mp h
    subst hev0
    subst hev3
    exact ⟨v0, v1, v2, v3, rfl, h⟩
  · cases h
def cs_Law_rp : List Nat := []
set_option maxRecDepth 100000 in
theorem E_Law_rp : ∀ (pc : Nat) (q : Ent), i_Law_rp pc = some q → ab_E KT CL ab_gW "StreamTransportLaw" "read" (some .int) method_4_code s_Law_rp 5 pc q.1 q.2.1 q.2.2.1 q.2.2.2.1 q.2.2.2.2 := fun pc q hq =>
  ab_Eb_ok lc_Law lj_Law fl_Law (fpn_Law "read") nw_Law na_Law nq_Law (ab_tab_all (t := t_Law_rp) (chk := fun pc q => ab_Eb (some .int) method_4_code s_Law_rp 5 LC_Law LJ_Law FL_Law FPn_Law NW_Law NA_Law NQ_Law pc q.1 q.2.1 q.2.2.1 q.2.2.2.1 q.2.2.2.2) (by decide +kernel) hq)
set_option maxRecDepth 100000 in
theorem kp_Law_rp {av : List AV} {m : Mm} {r : Int32 × Mm} (h : c_Law_rp av m = some r) : ab_kp m r.2 := by
  obtain ⟨v0, v1, v2, v3, -, h⟩ := c_Law_rp_inv h
  rw [r_Law_rp_eq] at h
  have hV : ∀ a av m m', eV_Law_rp a av m = some m' → ab_kp m m' := ab_ev_all (P := fun _ m r => ab_kp m r) [] (fun q hq => by cases hq)
  have hI : ∀ a av m q, eI_Law_rp a av m = some q → ab_kp m q.2 := ab_ev_all (P := fun _ (m : Mm) (r : Int32 × Mm) => ab_kp m r.2) [] (fun q hq => by cases hq)
  exact ab_kprel (ρ := .inl (some (.inl r.1), r.2)) (ab_tab_isn (t := t_Law_rp) (by decide +kernel)) hV hI (ab_rI_inv h)
set_option maxRecDepth 100000 in
theorem cl_Law_rp (l : Launch) : ∀ (pc : Nat) (q : Ent), i_Law_rp pc = some q → ab_inv q.1 = true → ab_CR l KT CL none ab_gW "StreamTransportLaw" method_4_code 5 0 0 eV_Law_rp eI_Law_rp pc q := by
  intro pc q hq hi
  have hm : pc ∈ cs_Law_rp := ab_tab_cs (t := t_Law_rp) (by decide +kernel) hq hi
  cases hm
end
