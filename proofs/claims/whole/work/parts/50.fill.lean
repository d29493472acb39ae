section
/-! java/util/Arrays.fill([II)V -/
def y_Arr_fill_IncB : MethodName := ⟨"java/util/Arrays", "fill", "([II)V"⟩
def t_Arr_fill_IncB (pc : Nat) : Option Ent :=
  bif Nat.blt pc 7 then
    (bif Nat.blt pc 3 then
      (bif Nat.blt pc 1 then
        (bif Nat.beq pc 0 then some (.iconst 0, 0, 0, 0, 0) else none)
      else
        bif Nat.blt pc 2 then
          (bif Nat.beq pc 1 then some (.istore_n 2, 2, 0, 0, 0) else none)
        else
          bif Nat.beq pc 2 then some (.aload_n 0, 0, 0, 0, 0) else none)
    else
      bif Nat.blt pc 5 then
        (bif Nat.blt pc 4 then
          (bif Nat.beq pc 3 then some (.arraylength, 0, 0, 0, 0) else none)
        else
          bif Nat.beq pc 4 then some (.istore_n 3, 3, 0, 0, 0) else none)
      else
        bif Nat.blt pc 6 then
          (bif Nat.beq pc 5 then some (.iload_n 2, 2, 0, 0, 0) else none)
        else
          bif Nat.beq pc 6 then some (.iload_n 3, 3, 0, 0, 0) else none)
  else
    bif Nat.blt pc 13 then
      (bif Nat.blt pc 11 then
        (bif Nat.blt pc 10 then
          (bif Nat.beq pc 7 then some (.if_icmp .ge (13), 20, 0, 0, 0) else none)
        else
          bif Nat.beq pc 10 then some (.aload_n 0, 0, 0, 0, 0) else none)
      else
        bif Nat.blt pc 12 then
          (bif Nat.beq pc 11 then some (.iload_n 2, 2, 0, 0, 0) else none)
        else
          bif Nat.beq pc 12 then some (.iload_n 1, 1, 0, 0, 0) else none)
    else
      bif Nat.blt pc 17 then
        (bif Nat.blt pc 14 then
          (bif Nat.beq pc 13 then some (.iastore, 0, 0, 0, 0) else none)
        else
          bif Nat.beq pc 14 then some (.iinc 2 1, 2, 0, 0, 1) else none)
      else
        bif Nat.blt pc 20 then
          (bif Nat.beq pc 17 then some (.goto (-12), 5, 0, 0, 0) else none)
        else
          bif Nat.beq pc 20 then some (.return_, 0, 0, 0, 0) else none
def i_Arr_fill_IncB : Nat → Option Ent := ab_tab 21 t_Arr_fill_IncB
def h_Arr_fill_IncB (pc : Nat) : Nat × List Bool := bif Nat.beq pc 5 then (1, [true, true, true, true]) else (0, [])
def s_Arr_fill_IncB (pc : Nat) : List (Int32 × Nat) × Nat := ([], 0)
noncomputable def eV_Arr_fill_IncB : Nat → List AV → Mm → Option Mm := ab_ev []
noncomputable def eI_Arr_fill_IncB : Nat → List AV → Mm → Option (Int32 × Mm) := ab_ev []
noncomputable def b_Arr_fill_IncB_0 (f : Nat) (v0 : Nat) (v1 : Int32) (m : Mm) : Option Rs := ab_ex KT none s_Arr_fill_IncB eV_Arr_fill_IncB eI_Arr_fill_IncB i_Arr_fill_IncB h_Arr_fill_IncB f 0 [some (.inr (.inr (16, some v0))), some (.inl v1), none, none] [] m
noncomputable def b_Arr_fill_IncB_5 (f : Nat) (v0 : Nat) (v1 : Int32) (v2 : Int32) (v3 : Int32) (m : Mm) : Option Rs := ab_ex KT none s_Arr_fill_IncB eV_Arr_fill_IncB eI_Arr_fill_IncB i_Arr_fill_IncB h_Arr_fill_IncB f 5 [some (.inr (.inr (16, some v0))), some (.inl v1), some (.inl v2), some (.inl v3)] [] m
set_option maxRecDepth 100000 in
set_option maxHeartbeats 4000000 in
theorem b_Arr_fill_IncB_0_eq (f : Nat) (v0 : Nat) (v1 : Int32) (m : Mm) : b_Arr_fill_IncB_0 (f + 1) v0 v1 m =
    ab_let ((Int32.ofNat 64)) fun x1 =>
    b_Arr_fill_IncB_5 f v0 v1 (0 : Int32) x1 m := rfl
set_option maxRecDepth 100000 in
set_option maxHeartbeats 4000000 in
theorem b_Arr_fill_IncB_5_eq (f : Nat) (v0 : Nat) (v1 : Int32) (v2 : Int32) (v3 : Int32) (m : Mm) : b_Arr_fill_IncB_5 (f + 1) v0 v1 v2 v3 m =
    if v3 ≤ v2 then
      some (.inl (none, m))
    else
      (ab_ix v2 64).bind fun i1 =>
      ab_let (ab_uI m 53 v0 i1 v1) fun m2 =>
      ab_let (v2 + (1 : Int32)) fun x3 =>
      b_Arr_fill_IncB_5 f v0 v1 x3 v3 m2 := rfl
noncomputable def r_Arr_fill_IncB : Nat → Int32 → Mm → Option Mm := ab_seal fun v0 v1 m => ab_rV (b_Arr_fill_IncB_0 50000 v0 v1 m)
theorem r_Arr_fill_IncB_eq (v0 : Nat) (v1 : Int32) (m : Mm) : r_Arr_fill_IncB v0 v1 m = ab_rV (b_Arr_fill_IncB_0 50000 v0 v1 m) := by
  unfold r_Arr_fill_IncB
  rw [ab_seal_eq]
noncomputable def c_Arr_fill_IncB : List AV → Mm → Option Mm := fun av m => match av with
  | [.inr (.inr (kv0, ov0)), .inl v1] => if kv0 = 16 then (ov0.bind fun v0 => r_Arr_fill_IncB v0 v1 m) else none
  | _ => none
theorem c_Arr_fill_IncB_inv {av : List AV} {m : Mm} {r : Mm} (h : c_Arr_fill_IncB av m = some r) : ∃ (v0 : Nat) (v1 : Int32), av = [.inr (.inr (16, some v0)), .inl v1] ∧ r_Arr_fill_IncB v0 v1 m = some r := by
  unfold c_Arr_fill_IncB at h
  split at h
  · rename_i kv0 ov0 v1
    by_cases hkv0 : kv0 = 16
    case neg => rw [if_neg hkv0] at h; cases h
    rw [if_pos hkv0] at h
    subst hkv0
    obtain ⟨v0, hev0, h⟩ := Option.bind_eq_some_iff.mp h
    subst hev0
    exact ⟨v0, v1, rfl, h⟩
  · cases h
def cs_Arr_fill_IncB : List Nat := []
set_option maxRecDepth 100000 in
theorem E_Arr_fill_IncB : ∀ (pc : Nat) (q : Ent), i_Arr_fill_IncB pc = some q → ab_E KT CL ab_gW "java/util/Arrays" "fill" none prog_21_method_103_code s_Arr_fill_IncB 4 pc q.1 q.2.1 q.2.2.1 q.2.2.2.1 q.2.2.2.2 := fun pc q hq =>
  ab_Eb_ok (fun q h => by cases h) (fun q h => by cases h) (fun q h => by cases h) (fun q h => by cases h) (fun q h => by cases h) (fun q h => by cases h) (fun q h => by cases h) (ab_tab_all (t := t_Arr_fill_IncB) (chk := fun pc q => ab_Eb none prog_21_method_103_code s_Arr_fill_IncB 4 [] [] [] [] [] [] [] pc q.1 q.2.1 q.2.2.1 q.2.2.2.1 q.2.2.2.2) (by decide +kernel) hq)
set_option maxRecDepth 100000 in
theorem kp_Arr_fill_IncB {av : List AV} {m : Mm} {r : Mm} (h : c_Arr_fill_IncB av m = some r) : ab_kp m r := by
  obtain ⟨v0, v1, -, h⟩ := c_Arr_fill_IncB_inv h
  rw [r_Arr_fill_IncB_eq] at h
  have hV : ∀ a av m m', eV_Arr_fill_IncB a av m = some m' → ab_kp m m' := ab_ev_all (P := fun _ m r => ab_kp m r) [] (fun q hq => by cases hq)
  have hI : ∀ a av m q, eI_Arr_fill_IncB a av m = some q → ab_kp m q.2 := ab_ev_all (P := fun _ (m : Mm) (r : Int32 × Mm) => ab_kp m r.2) [] (fun q hq => by cases hq)
  exact ab_kprel (ρ := .inl (none, r)) (ab_tab_isn (t := t_Arr_fill_IncB) (by decide +kernel)) hV hI (ab_rV_inv h)
set_option maxRecDepth 100000 in
theorem cl_Arr_fill_IncB (l : Launch) : ∀ (pc : Nat) (q : Ent), i_Arr_fill_IncB pc = some q → ab_inv q.1 = true → ab_CR l KT CL none ab_gW "java/util/Arrays" prog_21_method_103_code 4 0 0 eV_Arr_fill_IncB eI_Arr_fill_IncB pc q := by
  intro pc q hq hi
  have hm : pc ∈ cs_Arr_fill_IncB := ab_tab_cs (t := t_Arr_fill_IncB) (by decide +kernel) hq hi
  cases hm
theorem cw_Arr_fill_IncB : ab_cw y_Arr_fill_IncB prog_21_method_103_code 4 2 none := ⟨ab_gW_in 181 (by decide +kernel) rfl, ab_gW_in 68 (by decide +kernel) rfl, by decide +kernel, by decide +kernel, by decide +kernel⟩
theorem st_Arr_fill_IncB : Cond.static y_Arr_fill_IncB ∈ ab_gW := ab_gW_in 180 (by decide +kernel) rfl
set_option maxRecDepth 100000 in
theorem cm_Arr_fill_IncB (l : Launch) {av : List AV} {m : Mm} {r : Mm} (h0 : c_Arr_fill_IncB av m = some r) : av.length = 2 ∧ ab_nos av ∧ ab_Met l KT CL y_Arr_fill_IncB (Cond.code y_Arr_fill_IncB prog_21_method_103_code 4 none :: ab_gW) 0 0 none av m none r := by
  obtain ⟨v0, v1, hav, h⟩ := c_Arr_fill_IncB_inv h0
  rw [r_Arr_fill_IncB_eq] at h
  have hmo : ab_mo m r := ab_kp_mo (kp_Arr_fill_IncB h0)
  subst hav
  exact ⟨rfl, (by intro v hv q e; subst e; simp at hv), ab_met (by decide +kernel) KT_0 KT_nd KT_k3 E_Arr_fill_IncB (cl_Arr_fill_IncB l) hmo (Nat.le_of_ble_eq_true rfl) (ab_rV_inv h) (fun v hv => by cases hv)⟩
/-! java/util/Arrays.fill([II)V -/
def y_Arr_fill_SLim : MethodName := ⟨"java/util/Arrays", "fill", "([II)V"⟩
def t_Arr_fill_SLim (pc : Nat) : Option Ent :=
  bif Nat.blt pc 7 then
    (bif Nat.blt pc 3 then
      (bif Nat.blt pc 1 then
        (bif Nat.beq pc 0 then some (.iconst 0, 0, 0, 0, 0) else none)
      else
        bif Nat.blt pc 2 then
          (bif Nat.beq pc 1 then some (.istore_n 2, 2, 0, 0, 0) else none)
        else
          bif Nat.beq pc 2 then some (.aload_n 0, 0, 0, 0, 0) else none)
    else
      bif Nat.blt pc 5 then
        (bif Nat.blt pc 4 then
          (bif Nat.beq pc 3 then some (.arraylength, 0, 0, 0, 0) else none)
        else
          bif Nat.beq pc 4 then some (.istore_n 3, 3, 0, 0, 0) else none)
      else
        bif Nat.blt pc 6 then
          (bif Nat.beq pc 5 then some (.iload_n 2, 2, 0, 0, 0) else none)
        else
          bif Nat.beq pc 6 then some (.iload_n 3, 3, 0, 0, 0) else none)
  else
    bif Nat.blt pc 13 then
      (bif Nat.blt pc 11 then
        (bif Nat.blt pc 10 then
          (bif Nat.beq pc 7 then some (.if_icmp .ge (13), 20, 0, 0, 0) else none)
        else
          bif Nat.beq pc 10 then some (.aload_n 0, 0, 0, 0, 0) else none)
      else
        bif Nat.blt pc 12 then
          (bif Nat.beq pc 11 then some (.iload_n 2, 2, 0, 0, 0) else none)
        else
          bif Nat.beq pc 12 then some (.iload_n 1, 1, 0, 0, 0) else none)
    else
      bif Nat.blt pc 17 then
        (bif Nat.blt pc 14 then
          (bif Nat.beq pc 13 then some (.iastore, 0, 0, 0, 0) else none)
        else
          bif Nat.beq pc 14 then some (.iinc 2 1, 2, 0, 0, 1) else none)
      else
        bif Nat.blt pc 20 then
          (bif Nat.beq pc 17 then some (.goto (-12), 5, 0, 0, 0) else none)
        else
          bif Nat.beq pc 20 then some (.return_, 0, 0, 0, 0) else none
def i_Arr_fill_SLim : Nat → Option Ent := ab_tab 21 t_Arr_fill_SLim
def h_Arr_fill_SLim (pc : Nat) : Nat × List Bool := bif Nat.beq pc 5 then (1, [true, true, true, true]) else (0, [])
def s_Arr_fill_SLim (pc : Nat) : List (Int32 × Nat) × Nat := ([], 0)
noncomputable def eV_Arr_fill_SLim : Nat → List AV → Mm → Option Mm := ab_ev []
noncomputable def eI_Arr_fill_SLim : Nat → List AV → Mm → Option (Int32 × Mm) := ab_ev []
noncomputable def b_Arr_fill_SLim_0 (f : Nat) (v0 : Nat) (v1 : Int32) (m : Mm) : Option Rs := ab_ex KT none s_Arr_fill_SLim eV_Arr_fill_SLim eI_Arr_fill_SLim i_Arr_fill_SLim h_Arr_fill_SLim f 0 [some (.inr (.inr (23, some v0))), some (.inl v1), none, none] [] m
noncomputable def b_Arr_fill_SLim_5 (f : Nat) (v0 : Nat) (v1 : Int32) (v2 : Int32) (v3 : Int32) (m : Mm) : Option Rs := ab_ex KT none s_Arr_fill_SLim eV_Arr_fill_SLim eI_Arr_fill_SLim i_Arr_fill_SLim h_Arr_fill_SLim f 5 [some (.inr (.inr (23, some v0))), some (.inl v1), some (.inl v2), some (.inl v3)] [] m
set_option maxRecDepth 100000 in
set_option maxHeartbeats 4000000 in
theorem b_Arr_fill_SLim_0_eq (f : Nat) (v0 : Nat) (v1 : Int32) (m : Mm) : b_Arr_fill_SLim_0 (f + 1) v0 v1 m =
    ab_let ((Int32.ofNat 4)) fun x1 =>
    b_Arr_fill_SLim_5 f v0 v1 (0 : Int32) x1 m := rfl
set_option maxRecDepth 100000 in
set_option maxHeartbeats 4000000 in
theorem b_Arr_fill_SLim_5_eq (f : Nat) (v0 : Nat) (v1 : Int32) (v2 : Int32) (v3 : Int32) (m : Mm) : b_Arr_fill_SLim_5 (f + 1) v0 v1 v2 v3 m =
    if v3 ≤ v2 then
      some (.inl (none, m))
    else
      (ab_ix v2 4).bind fun i1 =>
      ab_let (ab_uI m 76 v0 i1 v1) fun m2 =>
      ab_let (v2 + (1 : Int32)) fun x3 =>
      b_Arr_fill_SLim_5 f v0 v1 x3 v3 m2 := rfl
noncomputable def r_Arr_fill_SLim : Nat → Int32 → Mm → Option Mm := ab_seal fun v0 v1 m => ab_rV (b_Arr_fill_SLim_0 50000 v0 v1 m)
theorem r_Arr_fill_SLim_eq (v0 : Nat) (v1 : Int32) (m : Mm) : r_Arr_fill_SLim v0 v1 m = ab_rV (b_Arr_fill_SLim_0 50000 v0 v1 m) := by
  unfold r_Arr_fill_SLim
  rw [ab_seal_eq]
noncomputable def c_Arr_fill_SLim : List AV → Mm → Option Mm := fun av m => match av with
  | [.inr (.inr (kv0, ov0)), .inl v1] => if kv0 = 23 then (ov0.bind fun v0 => r_Arr_fill_SLim v0 v1 m) else none
  | _ => none
theorem c_Arr_fill_SLim_inv {av : List AV} {m : Mm} {r : Mm} (h : c_Arr_fill_SLim av m = some r) : ∃ (v0 : Nat) (v1 : Int32), av = [.inr (.inr (23, some v0)), .inl v1] ∧ r_Arr_fill_SLim v0 v1 m = some r := by
  unfold c_Arr_fill_SLim at h
  split at h
  · rename_i kv0 ov0 v1
    by_cases hkv0 : kv0 = 23
    case neg => rw [if_neg hkv0] at h; cases h
    rw [if_pos hkv0] at h
    subst hkv0
    obtain ⟨v0, hev0, h⟩ := Option.bind_eq_some_iff.mp h
    subst hev0
    exact ⟨v0, v1, rfl, h⟩
  · cases h
def cs_Arr_fill_SLim : List Nat := []
set_option maxRecDepth 100000 in
theorem E_Arr_fill_SLim : ∀ (pc : Nat) (q : Ent), i_Arr_fill_SLim pc = some q → ab_E KT CL ab_gW "java/util/Arrays" "fill" none prog_21_method_103_code s_Arr_fill_SLim 4 pc q.1 q.2.1 q.2.2.1 q.2.2.2.1 q.2.2.2.2 := fun pc q hq =>
  ab_Eb_ok (fun q h => by cases h) (fun q h => by cases h) (fun q h => by cases h) (fun q h => by cases h) (fun q h => by cases h) (fun q h => by cases h) (fun q h => by cases h) (ab_tab_all (t := t_Arr_fill_SLim) (chk := fun pc q => ab_Eb none prog_21_method_103_code s_Arr_fill_SLim 4 [] [] [] [] [] [] [] pc q.1 q.2.1 q.2.2.1 q.2.2.2.1 q.2.2.2.2) (by decide +kernel) hq)
set_option maxRecDepth 100000 in
theorem kp_Arr_fill_SLim {av : List AV} {m : Mm} {r : Mm} (h : c_Arr_fill_SLim av m = some r) : ab_kp m r := by
  obtain ⟨v0, v1, -, h⟩ := c_Arr_fill_SLim_inv h
  rw [r_Arr_fill_SLim_eq] at h
  have hV : ∀ a av m m', eV_Arr_fill_SLim a av m = some m' → ab_kp m m' := ab_ev_all (P := fun _ m r => ab_kp m r) [] (fun q hq => by cases hq)
  have hI : ∀ a av m q, eI_Arr_fill_SLim a av m = some q → ab_kp m q.2 := ab_ev_all (P := fun _ (m : Mm) (r : Int32 × Mm) => ab_kp m r.2) [] (fun q hq => by cases hq)
  exact ab_kprel (ρ := .inl (none, r)) (ab_tab_isn (t := t_Arr_fill_SLim) (by decide +kernel)) hV hI (ab_rV_inv h)
set_option maxRecDepth 100000 in
theorem cl_Arr_fill_SLim (l : Launch) : ∀ (pc : Nat) (q : Ent), i_Arr_fill_SLim pc = some q → ab_inv q.1 = true → ab_CR l KT CL none ab_gW "java/util/Arrays" prog_21_method_103_code 4 0 0 eV_Arr_fill_SLim eI_Arr_fill_SLim pc q := by
  intro pc q hq hi
  have hm : pc ∈ cs_Arr_fill_SLim := ab_tab_cs (t := t_Arr_fill_SLim) (by decide +kernel) hq hi
  cases hm
theorem cw_Arr_fill_SLim : ab_cw y_Arr_fill_SLim prog_21_method_103_code 4 2 none := ⟨ab_gW_in 181 (by decide +kernel) rfl, ab_gW_in 68 (by decide +kernel) rfl, by decide +kernel, by decide +kernel, by decide +kernel⟩
theorem st_Arr_fill_SLim : Cond.static y_Arr_fill_SLim ∈ ab_gW := ab_gW_in 180 (by decide +kernel) rfl
set_option maxRecDepth 100000 in
theorem cm_Arr_fill_SLim (l : Launch) {av : List AV} {m : Mm} {r : Mm} (h0 : c_Arr_fill_SLim av m = some r) : av.length = 2 ∧ ab_nos av ∧ ab_Met l KT CL y_Arr_fill_SLim (Cond.code y_Arr_fill_SLim prog_21_method_103_code 4 none :: ab_gW) 0 0 none av m none r := by
  obtain ⟨v0, v1, hav, h⟩ := c_Arr_fill_SLim_inv h0
  rw [r_Arr_fill_SLim_eq] at h
  have hmo : ab_mo m r := ab_kp_mo (kp_Arr_fill_SLim h0)
  subst hav
  exact ⟨rfl, (by intro v hv q e; subst e; simp at hv), ab_met (by decide +kernel) KT_0 KT_nd KT_k3 E_Arr_fill_SLim (cl_Arr_fill_SLim l) hmo (Nat.le_of_ble_eq_true rfl) (ab_rV_inv h) (fun v hv => by cases hv)⟩
end
