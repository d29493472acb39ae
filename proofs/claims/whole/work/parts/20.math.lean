section
/-! java/lang/Math.max(II)I -/
def y_Math_max : MethodName := ⟨"java/lang/Math", "max", "(II)I"⟩
def t_Math_max (pc : Nat) : Option Ent :=
  bif Nat.blt pc 5 then
    (bif Nat.blt pc 1 then
      (bif Nat.beq pc 0 then some (.iload_n 0, 0, 0, 0, 0) else none)
    else
      bif Nat.blt pc 2 then
        (bif Nat.beq pc 1 then some (.iload_n 1, 1, 0, 0, 0) else none)
      else
        bif Nat.beq pc 2 then some (.if_icmp .lt (7), 9, 0, 0, 0) else none)
  else
    bif Nat.blt pc 9 then
      (bif Nat.blt pc 6 then
        (bif Nat.beq pc 5 then some (.iload_n 0, 0, 0, 0, 0) else none)
      else
        bif Nat.beq pc 6 then some (.goto 4, 10, 0, 0, 0) else none)
    else
      bif Nat.blt pc 10 then
        (bif Nat.beq pc 9 then some (.iload_n 1, 1, 0, 0, 0) else none)
      else
        bif Nat.beq pc 10 then some (.ireturn, 0, 0, 0, 0) else none
def i_Math_max : Nat → Option Ent := ab_tab 11 t_Math_max
def h_Math_max (pc : Nat) : Nat × List Bool := (0, [])
def s_Math_max (pc : Nat) : List (Int32 × Nat) × Nat := ([], 0)
noncomputable def eV_Math_max : Nat → List AV → Mm → Option Mm := ab_ev []
noncomputable def eI_Math_max : Nat → List AV → Mm → Option (Int32 × Mm) := ab_ev []
noncomputable def b_Math_max_0 (f : Nat) (v0 : Int32) (v1 : Int32) (m : Mm) : Option Rs := ab_ex KT none s_Math_max eV_Math_max eI_Math_max i_Math_max h_Math_max f 0 [some (.inl v0), some (.inl v1)] [] m
set_option maxRecDepth 100000 in
set_option maxHeartbeats 4000000 in
theorem b_Math_max_0_eq (f : Nat) (v0 : Int32) (v1 : Int32) (m : Mm) : b_Math_max_0 (f + 1) v0 v1 m =
    if v0 < v1 then
      some (.inl (some (.inl v1), m))
    else
      some (.inl (some (.inl v0), m)) := rfl
noncomputable def r_Math_max : Int32 → Int32 → Mm → Option (Int32 × Mm) := ab_seal fun v0 v1 m => ab_rI (b_Math_max_0 50000 v0 v1 m)
theorem r_Math_max_eq (v0 : Int32) (v1 : Int32) (m : Mm) : r_Math_max v0 v1 m = ab_rI (b_Math_max_0 50000 v0 v1 m) := by
  unfold r_Math_max
  rw [ab_seal_eq]
noncomputable def c_Math_max : List AV → Mm → Option (Int32 × Mm) := fun av m => match av with
  | [.inl v0, .inl v1] => r_Math_max v0 v1 m
  | _ => none
theorem c_Math_max_inv {av : List AV} {m : Mm} {r : Int32 × Mm} (h : c_Math_max av m = some r) : ∃ (v0 : Int32) (v1 : Int32), av = [.inl v0, .inl v1] ∧ r_Math_max v0 v1 m = some r := by
  unfold c_Math_max at h
  split at h
  · rename_i v0 v1
    exact ⟨v0, v1, rfl, h⟩
  · cases h
def cs_Math_max : List Nat := []
set_option maxRecDepth 100000 in
theorem E_Math_max : ∀ (pc : Nat) (q : Ent), i_Math_max pc = some q → ab_E KT CL ab_gW "java/lang/Math" "max" (some .int) prog_16_method_65_code s_Math_max 2 pc q.1 q.2.1 q.2.2.1 q.2.2.2.1 q.2.2.2.2 := fun pc q hq =>
  ab_Eb_ok (fun q h => by cases h) (fun q h => by cases h) (fun q h => by cases h) (fun q h => by cases h) (fun q h => by cases h) (fun q h => by cases h) (fun q h => by cases h) (ab_tab_all (t := t_Math_max) (chk := fun pc q => ab_Eb (some .int) prog_16_method_65_code s_Math_max 2 [] [] [] [] [] [] [] pc q.1 q.2.1 q.2.2.1 q.2.2.2.1 q.2.2.2.2) (by decide +kernel) hq)
set_option maxRecDepth 100000 in
theorem kp_Math_max {av : List AV} {m : Mm} {r : Int32 × Mm} (h : c_Math_max av m = some r) : ab_kp m r.2 := by
  obtain ⟨v0, v1, -, h⟩ := c_Math_max_inv h
  rw [r_Math_max_eq] at h
  have hV : ∀ a av m m', eV_Math_max a av m = some m' → ab_kp m m' := ab_ev_all (P := fun _ m r => ab_kp m r) [] (fun q hq => by cases hq)
  have hI : ∀ a av m q, eI_Math_max a av m = some q → ab_kp m q.2 := ab_ev_all (P := fun _ (m : Mm) (r : Int32 × Mm) => ab_kp m r.2) [] (fun q hq => by cases hq)
  exact ab_kprel (ρ := .inl (some (.inl r.1), r.2)) (ab_tab_isn (t := t_Math_max) (by decide +kernel)) hV hI (ab_rI_inv h)
set_option maxRecDepth 100000 in
theorem cl_Math_max (l : Launch) : ∀ (pc : Nat) (q : Ent), i_Math_max pc = some q → ab_inv q.1 = true → ab_CR l KT CL none ab_gW "java/lang/Math" prog_16_method_65_code 2 0 0 eV_Math_max eI_Math_max pc q := by
  intro pc q hq hi
  have hm : pc ∈ cs_Math_max := ab_tab_cs (t := t_Math_max) (by decide +kernel) hq hi
  cases hm
theorem cw_Math_max : ab_cw y_Math_max prog_16_method_65_code 2 2 (some .int) := ⟨ab_gW_in 560 (by decide +kernel) rfl, ab_gW_in 79 (by decide +kernel) rfl, by decide +kernel, by decide +kernel, by decide +kernel⟩
theorem st_Math_max : Cond.static y_Math_max ∈ ab_gW := ab_gW_in 559 (by decide +kernel) rfl
set_option maxRecDepth 100000 in
theorem cm_Math_max (l : Launch) {av : List AV} {m : Mm} {r : Int32 × Mm} (h0 : c_Math_max av m = some r) : av.length = 2 ∧ ab_nos av ∧ ab_Met l KT CL y_Math_max (Cond.code y_Math_max prog_16_method_65_code 2 (some .int) :: ab_gW) 0 0 none av m (some (.inl r.1)) r.2 := by
  obtain ⟨v0, v1, hav, h⟩ := c_Math_max_inv h0
  rw [r_Math_max_eq] at h
  have hmo : ab_mo m r.2 := ab_kp_mo (kp_Math_max h0)
  subst hav
  exact ⟨rfl, (by intro v hv q e; subst e; simp at hv), ab_met (by decide +kernel) KT_0 KT_nd KT_k3 E_Math_max (cl_Math_max l) hmo (Nat.le_of_ble_eq_true rfl) (ab_rI_inv h) (fun v hv => by cases hv; exact ⟨_, rfl⟩)⟩
/-! java/lang/Math.min(II)I -/
def y_Math_min : MethodName := ⟨"java/lang/Math", "min", "(II)I"⟩
def t_Math_min (pc : Nat) : Option Ent :=
  bif Nat.blt pc 5 then
    (bif Nat.blt pc 1 then
      (bif Nat.beq pc 0 then some (.iload_n 0, 0, 0, 0, 0) else none)
    else
      bif Nat.blt pc 2 then
        (bif Nat.beq pc 1 then some (.iload_n 1, 1, 0, 0, 0) else none)
      else
        bif Nat.beq pc 2 then some (.if_icmp .gt (7), 9, 0, 0, 0) else none)
  else
    bif Nat.blt pc 9 then
      (bif Nat.blt pc 6 then
        (bif Nat.beq pc 5 then some (.iload_n 0, 0, 0, 0, 0) else none)
      else
        bif Nat.beq pc 6 then some (.goto 4, 10, 0, 0, 0) else none)
    else
      bif Nat.blt pc 10 then
        (bif Nat.beq pc 9 then some (.iload_n 1, 1, 0, 0, 0) else none)
      else
        bif Nat.beq pc 10 then some (.ireturn, 0, 0, 0, 0) else none
def i_Math_min : Nat → Option Ent := ab_tab 11 t_Math_min
def h_Math_min (pc : Nat) : Nat × List Bool := (0, [])
def s_Math_min (pc : Nat) : List (Int32 × Nat) × Nat := ([], 0)
noncomputable def eV_Math_min : Nat → List AV → Mm → Option Mm := ab_ev []
noncomputable def eI_Math_min : Nat → List AV → Mm → Option (Int32 × Mm) := ab_ev []
noncomputable def b_Math_min_0 (f : Nat) (v0 : Int32) (v1 : Int32) (m : Mm) : Option Rs := ab_ex KT none s_Math_min eV_Math_min eI_Math_min i_Math_min h_Math_min f 0 [some (.inl v0), some (.inl v1)] [] m
set_option maxRecDepth 100000 in
set_option maxHeartbeats 4000000 in
theorem b_Math_min_0_eq (f : Nat) (v0 : Int32) (v1 : Int32) (m : Mm) : b_Math_min_0 (f + 1) v0 v1 m =
    if v1 < v0 then
      some (.inl (some (.inl v1), m))
    else
      some (.inl (some (.inl v0), m)) := rfl
noncomputable def r_Math_min : Int32 → Int32 → Mm → Option (Int32 × Mm) := ab_seal fun v0 v1 m => ab_rI (b_Math_min_0 50000 v0 v1 m)
theorem r_Math_min_eq (v0 : Int32) (v1 : Int32) (m : Mm) : r_Math_min v0 v1 m = ab_rI (b_Math_min_0 50000 v0 v1 m) := by
  unfold r_Math_min
  rw [ab_seal_eq]
noncomputable def c_Math_min : List AV → Mm → Option (Int32 × Mm) := fun av m => match av with
  | [.inl v0, .inl v1] => r_Math_min v0 v1 m
  | _ => none
theorem c_Math_min_inv {av : List AV} {m : Mm} {r : Int32 × Mm} (h : c_Math_min av m = some r) : ∃ (v0 : Int32) (v1 : Int32), av = [.inl v0, .inl v1] ∧ r_Math_min v0 v1 m = some r := by
  unfold c_Math_min at h
  split at h
  · rename_i v0 v1
    exact ⟨v0, v1, rfl, h⟩
  · cases h
def cs_Math_min : List Nat := []
set_option maxRecDepth 100000 in
theorem E_Math_min : ∀ (pc : Nat) (q : Ent), i_Math_min pc = some q → ab_E KT CL ab_gW "java/lang/Math" "min" (some .int) prog_16_method_69_code s_Math_min 2 pc q.1 q.2.1 q.2.2.1 q.2.2.2.1 q.2.2.2.2 := fun pc q hq =>
  ab_Eb_ok (fun q h => by cases h) (fun q h => by cases h) (fun q h => by cases h) (fun q h => by cases h) (fun q h => by cases h) (fun q h => by cases h) (fun q h => by cases h) (ab_tab_all (t := t_Math_min) (chk := fun pc q => ab_Eb (some .int) prog_16_method_69_code s_Math_min 2 [] [] [] [] [] [] [] pc q.1 q.2.1 q.2.2.1 q.2.2.2.1 q.2.2.2.2) (by decide +kernel) hq)
set_option maxRecDepth 100000 in
theorem kp_Math_min {av : List AV} {m : Mm} {r : Int32 × Mm} (h : c_Math_min av m = some r) : ab_kp m r.2 := by
  obtain ⟨v0, v1, -, h⟩ := c_Math_min_inv h
  rw [r_Math_min_eq] at h
  have hV : ∀ a av m m', eV_Math_min a av m = some m' → ab_kp m m' := ab_ev_all (P := fun _ m r => ab_kp m r) [] (fun q hq => by cases hq)
  have hI : ∀ a av m q, eI_Math_min a av m = some q → ab_kp m q.2 := ab_ev_all (P := fun _ (m : Mm) (r : Int32 × Mm) => ab_kp m r.2) [] (fun q hq => by cases hq)
  exact ab_kprel (ρ := .inl (some (.inl r.1), r.2)) (ab_tab_isn (t := t_Math_min) (by decide +kernel)) hV hI (ab_rI_inv h)
set_option maxRecDepth 100000 in
theorem cl_Math_min (l : Launch) : ∀ (pc : Nat) (q : Ent), i_Math_min pc = some q → ab_inv q.1 = true → ab_CR l KT CL none ab_gW "java/lang/Math" prog_16_method_69_code 2 0 0 eV_Math_min eI_Math_min pc q := by
  intro pc q hq hi
  have hm : pc ∈ cs_Math_min := ab_tab_cs (t := t_Math_min) (by decide +kernel) hq hi
  cases hm
theorem cw_Math_min : ab_cw y_Math_min prog_16_method_69_code 2 2 (some .int) := ⟨ab_gW_in 505 (by decide +kernel) rfl, ab_gW_in 79 (by decide +kernel) rfl, by decide +kernel, by decide +kernel, by decide +kernel⟩
theorem st_Math_min : Cond.static y_Math_min ∈ ab_gW := ab_gW_in 504 (by decide +kernel) rfl
set_option maxRecDepth 100000 in
theorem cm_Math_min (l : Launch) {av : List AV} {m : Mm} {r : Int32 × Mm} (h0 : c_Math_min av m = some r) : av.length = 2 ∧ ab_nos av ∧ ab_Met l KT CL y_Math_min (Cond.code y_Math_min prog_16_method_69_code 2 (some .int) :: ab_gW) 0 0 none av m (some (.inl r.1)) r.2 := by
  obtain ⟨v0, v1, hav, h⟩ := c_Math_min_inv h0
  rw [r_Math_min_eq] at h
  have hmo : ab_mo m r.2 := ab_kp_mo (kp_Math_min h0)
  subst hav
  exact ⟨rfl, (by intro v hv q e; subst e; simp at hv), ab_met (by decide +kernel) KT_0 KT_nd KT_k3 E_Math_min (cl_Math_min l) hmo (Nat.le_of_ble_eq_true rfl) (ab_rI_inv h) (fun v hv => by cases hv; exact ⟨_, rfl⟩)⟩
/-! java/lang/Math.floorMod(II)I -/
def y_Math_floorMod : MethodName := ⟨"java/lang/Math", "floorMod", "(II)I"⟩
def t_Math_floorMod (pc : Nat) : Option Ent :=
  bif Nat.blt pc 10 then
    (bif Nat.blt pc 4 then
      (bif Nat.blt pc 2 then
        (bif Nat.blt pc 1 then
          (bif Nat.beq pc 0 then some (.iload_n 0, 0, 0, 0, 0) else none)
        else
          bif Nat.beq pc 1 then some (.iload_n 1, 1, 0, 0, 0) else none)
      else
        bif Nat.blt pc 3 then
          (bif Nat.beq pc 2 then some (.irem, 0, 0, 0, 0) else none)
        else
          bif Nat.beq pc 3 then some (.istore_n 2, 2, 0, 0, 0) else none)
    else
      bif Nat.blt pc 6 then
        (bif Nat.blt pc 5 then
          (bif Nat.beq pc 4 then some (.iload_n 0, 0, 0, 0, 0) else none)
        else
          bif Nat.beq pc 5 then some (.iload_n 1, 1, 0, 0, 0) else none)
      else
        bif Nat.blt pc 7 then
          (bif Nat.beq pc 6 then some (.ixor, 0, 0, 0, 0) else none)
        else
          bif Nat.beq pc 7 then some (.ifCond .ge (11), 18, 0, 0, 0) else none)
  else
    bif Nat.blt pc 16 then
      (bif Nat.blt pc 14 then
        (bif Nat.blt pc 11 then
          (bif Nat.beq pc 10 then some (.iload_n 2, 2, 0, 0, 0) else none)
        else
          bif Nat.beq pc 11 then some (.ifCond .eq (7), 18, 0, 0, 0) else none)
      else
        bif Nat.blt pc 15 then
          (bif Nat.beq pc 14 then some (.iload_n 2, 2, 0, 0, 0) else none)
        else
          bif Nat.beq pc 15 then some (.iload_n 1, 1, 0, 0, 0) else none)
    else
      bif Nat.blt pc 18 then
        (bif Nat.blt pc 17 then
          (bif Nat.beq pc 16 then some (.iadd, 0, 0, 0, 0) else none)
        else
          bif Nat.beq pc 17 then some (.ireturn, 0, 0, 0, 0) else none)
      else
        bif Nat.blt pc 19 then
          (bif Nat.beq pc 18 then some (.iload_n 2, 2, 0, 0, 0) else none)
        else
          bif Nat.beq pc 19 then some (.ireturn, 0, 0, 0, 0) else none
def i_Math_floorMod : Nat → Option Ent := ab_tab 20 t_Math_floorMod
def h_Math_floorMod (pc : Nat) : Nat × List Bool := (0, [])
def s_Math_floorMod (pc : Nat) : List (Int32 × Nat) × Nat := ([], 0)
noncomputable def eV_Math_floorMod : Nat → List AV → Mm → Option Mm := ab_ev []
noncomputable def eI_Math_floorMod : Nat → List AV → Mm → Option (Int32 × Mm) := ab_ev []
noncomputable def b_Math_floorMod_0 (f : Nat) (v0 : Int32) (v1 : Int32) (m : Mm) : Option Rs := ab_ex KT none s_Math_floorMod eV_Math_floorMod eI_Math_floorMod i_Math_floorMod h_Math_floorMod f 0 [some (.inl v0), some (.inl v1), none] [] m
set_option maxRecDepth 100000 in
set_option maxHeartbeats 4000000 in
theorem b_Math_floorMod_0_eq (f : Nat) (v0 : Int32) (v1 : Int32) (m : Mm) : b_Math_floorMod_0 (f + 1) v0 v1 m =
    if v1 = 0 then none else
    ab_let ((v0 - v0 / v1 * v1)) fun x1 =>
    if 0 ≤ (v0 ^^^ v1) then
      some (.inl (some (.inl x1), m))
    else
      if x1 = 0 then
        some (.inl (some (.inl x1), m))
      else
        some (.inl (some (.inl (x1 + v1)), m)) := rfl
noncomputable def r_Math_floorMod : Int32 → Int32 → Mm → Option (Int32 × Mm) := ab_seal fun v0 v1 m => ab_rI (b_Math_floorMod_0 50000 v0 v1 m)
theorem r_Math_floorMod_eq (v0 : Int32) (v1 : Int32) (m : Mm) : r_Math_floorMod v0 v1 m = ab_rI (b_Math_floorMod_0 50000 v0 v1 m) := by
  unfold r_Math_floorMod
  rw [ab_seal_eq]
noncomputable def c_Math_floorMod : List AV → Mm → Option (Int32 × Mm) := fun av m => match av with
  | [.inl v0, .inl v1] => r_Math_floorMod v0 v1 m
  | _ => none
theorem c_Math_floorMod_inv {av : List AV} {m : Mm} {r : Int32 × Mm} (h : c_Math_floorMod av m = some r) : ∃ (v0 : Int32) (v1 : Int32), av = [.inl v0, .inl v1] ∧ r_Math_floorMod v0 v1 m = some r := by
  unfold c_Math_floorMod at h
  split at h
  · rename_i v0 v1
    exact ⟨v0, v1, rfl, h⟩
  · cases h
def cs_Math_floorMod : List Nat := []
set_option maxRecDepth 100000 in
theorem E_Math_floorMod : ∀ (pc : Nat) (q : Ent), i_Math_floorMod pc = some q → ab_E KT CL ab_gW "java/lang/Math" "floorMod" (some .int) prog_16_method_50_code s_Math_floorMod 3 pc q.1 q.2.1 q.2.2.1 q.2.2.2.1 q.2.2.2.2 := fun pc q hq =>
  ab_Eb_ok (fun q h => by cases h) (fun q h => by cases h) (fun q h => by cases h) (fun q h => by cases h) (fun q h => by cases h) (fun q h => by cases h) (fun q h => by cases h) (ab_tab_all (t := t_Math_floorMod) (chk := fun pc q => ab_Eb (some .int) prog_16_method_50_code s_Math_floorMod 3 [] [] [] [] [] [] [] pc q.1 q.2.1 q.2.2.1 q.2.2.2.1 q.2.2.2.2) (by decide +kernel) hq)
set_option maxRecDepth 100000 in
theorem kp_Math_floorMod {av : List AV} {m : Mm} {r : Int32 × Mm} (h : c_Math_floorMod av m = some r) : ab_kp m r.2 := by
  obtain ⟨v0, v1, -, h⟩ := c_Math_floorMod_inv h
  rw [r_Math_floorMod_eq] at h
  have hV : ∀ a av m m', eV_Math_floorMod a av m = some m' → ab_kp m m' := ab_ev_all (P := fun _ m r => ab_kp m r) [] (fun q hq => by cases hq)
  have hI : ∀ a av m q, eI_Math_floorMod a av m = some q → ab_kp m q.2 := ab_ev_all (P := fun _ (m : Mm) (r : Int32 × Mm) => ab_kp m r.2) [] (fun q hq => by cases hq)
  exact ab_kprel (ρ := .inl (some (.inl r.1), r.2)) (ab_tab_isn (t := t_Math_floorMod) (by decide +kernel)) hV hI (ab_rI_inv h)
set_option maxRecDepth 100000 in
theorem cl_Math_floorMod (l : Launch) : ∀ (pc : Nat) (q : Ent), i_Math_floorMod pc = some q → ab_inv q.1 = true → ab_CR l KT CL none ab_gW "java/lang/Math" prog_16_method_50_code 3 0 0 eV_Math_floorMod eI_Math_floorMod pc q := by
  intro pc q hq hi
  have hm : pc ∈ cs_Math_floorMod := ab_tab_cs (t := t_Math_floorMod) (by decide +kernel) hq hi
  cases hm
theorem cw_Math_floorMod : ab_cw y_Math_floorMod prog_16_method_50_code 3 2 (some .int) := ⟨ab_gW_in 620 (by decide +kernel) rfl, ab_gW_in 79 (by decide +kernel) rfl, by decide +kernel, by decide +kernel, by decide +kernel⟩
theorem st_Math_floorMod : Cond.static y_Math_floorMod ∈ ab_gW := ab_gW_in 619 (by decide +kernel) rfl
set_option maxRecDepth 100000 in
theorem cm_Math_floorMod (l : Launch) {av : List AV} {m : Mm} {r : Int32 × Mm} (h0 : c_Math_floorMod av m = some r) : av.length = 2 ∧ ab_nos av ∧ ab_Met l KT CL y_Math_floorMod (Cond.code y_Math_floorMod prog_16_method_50_code 3 (some .int) :: ab_gW) 0 0 none av m (some (.inl r.1)) r.2 := by
  obtain ⟨v0, v1, hav, h⟩ := c_Math_floorMod_inv h0
  rw [r_Math_floorMod_eq] at h
  have hmo : ab_mo m r.2 := ab_kp_mo (kp_Math_floorMod h0)
  subst hav
  exact ⟨rfl, (by intro v hv q e; subst e; simp at hv), ab_met (by decide +kernel) KT_0 KT_nd KT_k3 E_Math_floorMod (cl_Math_floorMod l) hmo (Nat.le_of_ble_eq_true rfl) (ab_rI_inv h) (fun v hv => by cases hv; exact ⟨_, rfl⟩)⟩
end
