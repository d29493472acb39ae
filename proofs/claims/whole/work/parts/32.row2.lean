section
/-! StreamTransport$Row.become(LStreamTransport$Row;)V -/
def y_Row_become : MethodName := ⟨"StreamTransport$Row", "become", "(LStreamTransport$Row;)V"⟩
def t_Row_become (pc : Nat) : Option Ent :=
  bif Nat.blt pc 16 then
    (bif Nat.blt pc 8 then
      (bif Nat.blt pc 2 then
        (bif Nat.blt pc 1 then
          (bif Nat.beq pc 0 then some (.aload_n 0, 0, 0, 0, 0) else none)
        else
          bif Nat.beq pc 1 then some (.aload_n 1, 1, 0, 0, 0) else none)
      else
        bif Nat.blt pc 5 then
          (bif Nat.beq pc 2 then some (.getfield 15, 7, 2, 0, 0) else none)
        else
          bif Nat.beq pc 5 then some (.putfield 15, 7, 2, 0, 0) else none)
    else
      bif Nat.blt pc 10 then
        (bif Nat.blt pc 9 then
          (bif Nat.beq pc 8 then some (.aload_n 0, 0, 0, 0, 0) else none)
        else
          bif Nat.beq pc 9 then some (.aload_n 1, 1, 0, 0, 0) else none)
      else
        bif Nat.blt pc 13 then
          (bif Nat.beq pc 10 then some (.getfield 19, 7, 1, 0, 0) else none)
        else
          bif Nat.beq pc 13 then some (.putfield 19, 7, 1, 0, 0) else none)
  else
    bif Nat.blt pc 22 then
      (bif Nat.blt pc 20 then
        (bif Nat.blt pc 17 then
          (bif Nat.beq pc 16 then some (.aload_n 1, 1, 0, 0, 0) else none)
        else
          bif Nat.beq pc 17 then some (.getfield 9, 7, 0, 1, 0) else none)
      else
        bif Nat.blt pc 21 then
          (bif Nat.beq pc 20 then some (.iconst 0, 0, 0, 0, 0) else none)
        else
          bif Nat.beq pc 21 then some (.aload_n 0, 0, 0, 0, 0) else none)
    else
      bif Nat.blt pc 26 then
        (bif Nat.blt pc 25 then
          (bif Nat.beq pc 22 then some (.getfield 9, 7, 0, 1, 0) else none)
        else
          bif Nat.beq pc 25 then some (.iconst 0, 0, 0, 0, 0) else none)
      else
        bif Nat.blt pc 28 then
          (bif Nat.beq pc 26 then some (.bipush 40, 0, 0, 0, 40) else none)
        else
          bif Nat.blt pc 31 then
            (bif Nat.beq pc 28 then some (.invokestatic 46, 900, 5, 0, 0) else none)
          else
            bif Nat.beq pc 31 then some (.return_, 0, 0, 0, 0) else none
def i_Row_become : Nat → Option Ent := ab_tab 32 t_Row_become
def h_Row_become (pc : Nat) : Nat × List Bool := (0, [])
def s_Row_become (pc : Nat) : List (Int32 × Nat) × Nat := ([], 0)
noncomputable def eV_Row_become : Nat → List AV → Mm → Option Mm := ab_ev [(900, c_copy)]
noncomputable def eI_Row_become : Nat → List AV → Mm → Option (Int32 × Mm) := ab_ev []
noncomputable def b_Row_become_0 (f : Nat) (v0 : Nat) (v1 : Nat) (m : Mm) : Option Rs := ab_ex KT none s_Row_become eV_Row_become eI_Row_become i_Row_become h_Row_become f 0 [some (.inr (.inr (4, some v0))), some (.inr (.inr (4, some v1)))] [] m
set_option maxRecDepth 100000 in
set_option maxHeartbeats 4000000 in
theorem b_Row_become_0_eq (f : Nat) (v0 : Nat) (v1 : Nat) (m : Mm) : b_Row_become_0 (f + 1) v0 v1 m =
    ab_let (ab_uI m 12 v0 0 (m.1 12 v1 0)) fun m1 =>
    ab_let (ab_uI m1 11 v0 0 (m1.1 11 v1 0)) fun m2 =>
    (r_copy (v1 + 1) (0 : Int32) (v0 + 1) (0 : Int32) (40 : Int32) m2).bind fun m3 =>
    some (.inl (none, m3)) := rfl
noncomputable def r_Row_become : Nat → Nat → Mm → Option Mm := ab_seal fun v0 v1 m => ab_rV (b_Row_become_0 50000 v0 v1 m)
theorem r_Row_become_eq (v0 : Nat) (v1 : Nat) (m : Mm) : r_Row_become v0 v1 m = ab_rV (b_Row_become_0 50000 v0 v1 m) := by
  unfold r_Row_become
  rw [ab_seal_eq]
noncomputable def c_Row_become : List AV → Mm → Option Mm := fun av m => match av with
  | [.inr (.inr (kv0, ov0)), .inr (.inr (kv1, ov1))] => if kv0 = 4 then (if kv1 = 4 then (ov0.bind fun v0 => ov1.bind fun v1 => r_Row_become v0 v1 m) else none) else none
  | _ => none
theorem c_Row_become_inv {av : List AV} {m : Mm} {r : Mm} (h : c_Row_become av m = some r) : ∃ (v0 : Nat) (v1 : Nat), av = [.inr (.inr (4, some v0)), .inr (.inr (4, some v1))] ∧ r_Row_become v0 v1 m = some r := by
  unfold c_Row_become at h
  split at h
  · rename_i kv0 ov0 kv1 ov1
    by_cases hkv0 : kv0 = 4
    case neg => rw [if_neg hkv0] at h; cases h
    rw [if_pos hkv0] at h
    subst hkv0
    by_cases hkv1 : kv1 = 4
    case neg => rw [if_neg hkv1] at h; cases h
    rw [if_pos hkv1] at h
    subst hkv1
    obtain ⟨v0, hev0, h⟩ := Option.bind_eq_some_iff.mp h
    obtain ⟨v1, hev1, h⟩ := Option.bind_eq_some_iff.mp h
    subst hev0
    subst hev1
    exact ⟨v0, v1, rfl, h⟩
  · cases h
def cs_Row_become : List Nat := [28]
set_option maxRecDepth 100000 in
theorem E_Row_become : ∀ (pc : Nat) (q : Ent), i_Row_become pc = some q → ab_E KT CL ab_gW "StreamTransport$Row" "become" none prog_9_method_11_code s_Row_become 2 pc q.1 q.2.1 q.2.2.1 q.2.2.2.1 q.2.2.2.2 := fun pc q hq =>
  ab_Eb_ok lc_Row lj_Row fl_Row (fpn_Row "become") nw_Row na_Row nq_Row (ab_tab_all (t := t_Row_become) (chk := fun pc q => ab_Eb none prog_9_method_11_code s_Row_become 2 LC_Row LJ_Row FL_Row FPn_Row NW_Row NA_Row NQ_Row pc q.1 q.2.1 q.2.2.1 q.2.2.2.1 q.2.2.2.2) (by decide +kernel) hq)
set_option maxRecDepth 100000 in
theorem kp_Row_become {av : List AV} {m : Mm} {r : Mm} (h : c_Row_become av m = some r) : ab_kp m r := by
  obtain ⟨v0, v1, -, h⟩ := c_Row_become_inv h
  rw [r_Row_become_eq] at h
  have hV : ∀ a av m m', eV_Row_become a av m = some m' → ab_kp m m' := ab_ev_all (P := fun _ m r => ab_kp m r) [(900, c_copy)] (List.forall_mem_cons.mpr ⟨fun av m r h => kp_copy h, fun q hq => by cases hq⟩)
  have hI : ∀ a av m q, eI_Row_become a av m = some q → ab_kp m q.2 := ab_ev_all (P := fun _ (m : Mm) (r : Int32 × Mm) => ab_kp m r.2) [] (fun q hq => by cases hq)
  exact ab_kprel (ρ := .inl (none, r)) (ab_tab_isn (t := t_Row_become) (by decide +kernel)) hV hI (ab_rV_inv h)
set_option maxRecDepth 100000 in
theorem cl_Row_become (l : Launch) : ∀ (pc : Nat) (q : Ent), i_Row_become pc = some q → ab_inv q.1 = true → ab_CR l KT CL none ab_gW "StreamTransport$Row" prog_9_method_11_code 2 1 35 eV_Row_become eI_Row_become pc q := by
  intro pc q hq hi
  have hm : pc ∈ cs_Row_become := ab_tab_cs (t := t_Row_become) (by decide +kernel) hq hi
  simp only [cs_Row_become, List.mem_cons, List.not_mem_nil, or_false] at hm
  rcases hm with rfl
  · cases (Option.some.inj hq : ((.invokestatic 46, 900, 5, 0, 0) : Ent) = q)
    exact ab_crC (by decide +kernel) (ab_gW_in 763 (by decide +kernel) rfl) (ab_gW_in 765 (by decide +kernel) rfl) (ab_gW_in 764 (by decide +kernel) rfl) (ab_gW_in 81 (by decide +kernel) rfl) (by decide) (by decide) (fun av m m' h => h) (fun av m => rfl)
theorem cw_Row_become : ab_cw y_Row_become prog_9_method_11_code 2 1 none := ⟨ab_gW_in 762 (by decide +kernel) rfl, ab_gW_in 62 (by decide +kernel) rfl, by decide +kernel, by decide +kernel, by decide +kernel⟩
theorem is_Row_become : Cond.instanceMethod y_Row_become ∈ ab_gW := ab_gW_in 760 (by decide +kernel) rfl
theorem sl_Row_become : Cond.selects "StreamTransport$Row" y_Row_become y_Row_become ∈ ab_gW := ab_gW_in 761 (by decide +kernel) rfl
set_option maxRecDepth 100000 in
theorem cm_Row_become (l : Launch) {av : List AV} {m : Mm} {r : Mm} (h0 : c_Row_become av m = some r) : ∃ (k q : Nat) (av' : List AV) (ci : Nat) (fs : List (Nat × Nat × Nat × Nat)) (z : vw_C), av = .inr (.inr (k, some q)) :: av' ∧ av'.length = 1 ∧ k ≠ 0 ∧ KT[k]? = some (.inl (ci, fs)) ∧ CL[ci]? = some z ∧ z.1 = "StreamTransport$Row" ∧ ab_nos av' ∧ ab_Met l KT CL y_Row_become (Cond.code y_Row_become prog_9_method_11_code 2 none :: ab_gW) 1 35 none av m none r := by
  obtain ⟨v0, v1, hav, h⟩ := c_Row_become_inv h0
  rw [r_Row_become_eq] at h
  have hmo : ab_mo m r := ab_kp_mo (kp_Row_become h0)
  subst hav
  exact ⟨_, _, _, _, _, _, rfl, rfl, by decide, rfl, rfl, rfl, (by intro v hv q e; subst e; simp at hv), ab_met (by decide +kernel) KT_0 KT_nd KT_k3 E_Row_become (cl_Row_become l) hmo (Nat.le_of_ble_eq_true rfl) (ab_rV_inv h) (fun v hv => by cases hv)⟩
end
