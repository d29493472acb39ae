section
/-! StreamTransport.copy(I)Z -/
def y_X_copy : MethodName := ⟨"StreamTransport", "copy", "(I)Z"⟩
def t_X_copy (pc : Nat) : Option Ent :=
  bif Nat.blt pc 27 then
    (bif Nat.blt pc 14 then
      (bif Nat.blt pc 5 then
        (bif Nat.blt pc 1 then
          (bif Nat.beq pc 0 then some (.aload_n 0, 0, 0, 0, 0) else none)
        else
          bif Nat.blt pc 2 then
            (bif Nat.beq pc 1 then some (.iload_n 1, 1, 0, 0, 0) else none)
          else
            bif Nat.beq pc 2 then some (.invokevirtual 130, 86, 2, 1, 0) else none)
      else
        bif Nat.blt pc 9 then
          (bif Nat.blt pc 8 then
            (bif Nat.beq pc 5 then some (.ifCond .eq (12), 17, 0, 0, 0) else none)
          else
            bif Nat.beq pc 8 then some (.aload_n 0, 0, 0, 0, 0) else none)
        else
          bif Nat.blt pc 12 then
            (bif Nat.beq pc 9 then some (.getfield 120, 9, 4, 0, 0) else none)
          else
            bif Nat.beq pc 12 then some (.bipush 16, 0, 0, 0, 16) else none)
    else
      bif Nat.blt pc 19 then
        (bif Nat.blt pc 17 then
          (bif Nat.beq pc 14 then some (.if_icmp .lt (5), 19, 0, 0, 0) else none)
        else
          bif Nat.blt pc 18 then
            (bif Nat.beq pc 17 then some (.iconst 0, 0, 0, 0, 0) else none)
          else
            bif Nat.beq pc 18 then some (.ireturn, 0, 0, 1, 0) else none)
      else
        bif Nat.blt pc 23 then
          (bif Nat.blt pc 20 then
            (bif Nat.beq pc 19 then some (.aload_n 0, 0, 0, 0, 0) else none)
          else
            bif Nat.beq pc 20 then some (.getfield 17, 9, 1, 1, 0) else none)
        else
          bif Nat.blt pc 24 then
            (bif Nat.beq pc 23 then some (.aload_n 0, 0, 0, 0, 0) else none)
          else
            bif Nat.beq pc 24 then some (.getfield 120, 9, 4, 0, 0) else none)
  else
    bif Nat.blt pc 38 then
      (bif Nat.blt pc 32 then
        (bif Nat.blt pc 28 then
          (bif Nat.beq pc 27 then some (.aaload, 0, 0, 0, 0) else none)
        else
          bif Nat.blt pc 29 then
            (bif Nat.beq pc 28 then some (.aload_n 0, 0, 0, 0, 0) else none)
          else
            bif Nat.beq pc 29 then some (.getfield 17, 9, 1, 1, 0) else none)
      else
        bif Nat.blt pc 34 then
          (bif Nat.blt pc 33 then
            (bif Nat.beq pc 32 then some (.iload_n 1, 1, 0, 0, 0) else none)
          else
            bif Nat.beq pc 33 then some (.aaload, 0, 0, 0, 0) else none)
        else
          bif Nat.blt pc 37 then
            (bif Nat.beq pc 34 then some (.invokevirtual 144, 153, 2, 0, 0) else none)
          else
            bif Nat.beq pc 37 then some (.aload_n 0, 0, 0, 0, 0) else none)
    else
      bif Nat.blt pc 43 then
        (bif Nat.blt pc 39 then
          (bif Nat.beq pc 38 then some (.dup, 0, 0, 1, 0) else none)
        else
          bif Nat.blt pc 42 then
            (bif Nat.beq pc 39 then some (.getfield 120, 9, 4, 0, 0) else none)
          else
            bif Nat.beq pc 42 then some (.iconst 1, 0, 0, 0, 1) else none)
      else
        bif Nat.blt pc 47 then
          (bif Nat.blt pc 44 then
            (bif Nat.beq pc 43 then some (.iadd, 0, 0, 0, 0) else none)
          else
            bif Nat.beq pc 44 then some (.putfield 120, 9, 4, 0, 0) else none)
        else
          bif Nat.blt pc 48 then
            (bif Nat.beq pc 47 then some (.iconst 1, 0, 0, 0, 1) else none)
          else
            bif Nat.beq pc 48 then some (.ireturn, 0, 0, 1, 0) else none
def i_X_copy : Nat → Option Ent := ab_tab 49 t_X_copy
def h_X_copy (pc : Nat) : Nat × List Bool := (0, [])
def s_X_copy (pc : Nat) : List (Int32 × Nat) × Nat := ([], 0)
noncomputable def eV_X_copy : Nat → List AV → Mm → Option Mm := ab_ev [(153, c_Row_become)]
noncomputable def eI_X_copy : Nat → List AV → Mm → Option (Int32 × Mm) := ab_ev [(86, c_X_isUnderWay)]
noncomputable def b_X_copy_0 (f : Nat) (v0 : Nat) (v1 : Int32) (m : Mm) : Option Rs := ab_ex KT none s_X_copy eV_X_copy eI_X_copy i_X_copy h_X_copy f 0 [some (.inr (.inr (1, some v0))), some (.inl v1)] [] m
set_option maxRecDepth 100000 in
set_option maxHeartbeats 4000000 in
theorem b_X_copy_0_eq (f : Nat) (v0 : Nat) (v1 : Int32) (m : Mm) : b_X_copy_0 (f + 1) v0 v1 m =
    (r_X_isUnderWay v0 v1 m).bind fun z1 =>
    if z1.1 = 0 then
      (ab_bo (0 : Int32)).bind fun y2 => some (.inl (some (.inl y2), z1.2))
    else
      if (z1.2.1 5 v0 0) < (16 : Int32) then
        (ab_ix (z1.2.1 5 v0 0) 16).bind fun i3 =>
        (ab_ix v1 16).bind fun i4 =>
        ((z1.2.2.2.1 9 (v0 + 2) i3).bind fun q5 => (z1.2.2.2.1 9 (v0 + 2) i4).bind fun q6 => r_Row_become q5 q6 z1.2).bind fun m7 =>
        ab_let (ab_uI m7 5 v0 0 ((m7.1 5 v0 0) + (1 : Int32))) fun m8 =>
        (ab_bo (1 : Int32)).bind fun y9 => some (.inl (some (.inl y9), m8))
      else
        (ab_bo (0 : Int32)).bind fun y10 => some (.inl (some (.inl y10), z1.2)) := rfl
noncomputable def r_X_copy : Nat → Int32 → Mm → Option (Int32 × Mm) := ab_seal fun v0 v1 m => ab_rI (b_X_copy_0 50000 v0 v1 m)
theorem r_X_copy_eq (v0 : Nat) (v1 : Int32) (m : Mm) : r_X_copy v0 v1 m = ab_rI (b_X_copy_0 50000 v0 v1 m) := by
  unfold r_X_copy
  rw [ab_seal_eq]
noncomputable def c_X_copy : List AV → Mm → Option (Int32 × Mm) := fun av m => match av with
  | [.inr (.inr (kv0, ov0)), .inl v1] => if kv0 = 1 then (ov0.bind fun v0 => r_X_copy v0 v1 m) else none
  | _ => none
theorem c_X_copy_inv {av : List AV} {m : Mm} {r : Int32 × Mm} (h : c_X_copy av m = some r) : ∃ (v0 : Nat) (v1 : Int32), av = [.inr (.inr (1, some v0)), .inl v1] ∧ r_X_copy v0 v1 m = some r := by
  unfold c_X_copy at h
  split at h
  · rename_i kv0 ov0 v1
    by_cases hkv0 : kv0 = 1
    case neg => rw [if_neg hkv0] at h; cases h
    rw [if_pos hkv0] at h
    subst hkv0
    obtain ⟨v0, hev0, h⟩ := Option.bind_eq_some_iff.mp h
    subst hev0
    exact ⟨v0, v1, rfl, h⟩
  · cases h
def cs_X_copy : List Nat := [2, 34]
set_option maxRecDepth 100000 in
theorem E_X_copy : ∀ (pc : Nat) (q : Ent), i_X_copy pc = some q → ab_E KT CL ab_gW "StreamTransport" "copy" (some .boolean) prog_1_method_10_code s_X_copy 2 pc q.1 q.2.1 q.2.2.1 q.2.2.2.1 q.2.2.2.2 := fun pc q hq =>
  ab_Eb_ok lc_X lj_X fl_X (fpn_X "copy") nw_X na_X nq_X (ab_tab_all (t := t_X_copy) (chk := fun pc q => ab_Eb (some .boolean) prog_1_method_10_code s_X_copy 2 LC_X LJ_X FL_X FPn_X NW_X NA_X NQ_X pc q.1 q.2.1 q.2.2.1 q.2.2.2.1 q.2.2.2.2) (by decide +kernel) hq)
set_option maxRecDepth 100000 in
theorem kp_X_copy {av : List AV} {m : Mm} {r : Int32 × Mm} (h : c_X_copy av m = some r) : ab_kp m r.2 := by
  obtain ⟨v0, v1, -, h⟩ := c_X_copy_inv h
  rw [r_X_copy_eq] at h
  have hV : ∀ a av m m', eV_X_copy a av m = some m' → ab_kp m m' := ab_ev_all (P := fun _ m r => ab_kp m r) [(153, c_Row_become)] (List.forall_mem_cons.mpr ⟨fun av m r h => kp_Row_become h, fun q hq => by cases hq⟩)
  have hI : ∀ a av m q, eI_X_copy a av m = some q → ab_kp m q.2 := ab_ev_all (P := fun _ (m : Mm) (r : Int32 × Mm) => ab_kp m r.2) [(86, c_X_isUnderWay)] (List.forall_mem_cons.mpr ⟨fun av m r h => kp_X_isUnderWay h, fun q hq => by cases hq⟩)
  exact ab_kprel (ρ := .inl (some (.inl r.1), r.2)) (ab_tab_isn (t := t_X_copy) (by decide +kernel)) hV hI (ab_rI_inv h)
set_option maxRecDepth 100000 in
theorem cl_X_copy (l : Launch) : ∀ (pc : Nat) (q : Ent), i_X_copy pc = some q → ab_inv q.1 = true → ab_CR l KT CL none ab_gW "StreamTransport" prog_1_method_10_code 2 2 56 eV_X_copy eI_X_copy pc q := by
  intro pc q hq hi
  have hm : pc ∈ cs_X_copy := ab_tab_cs (t := t_X_copy) (by decide +kernel) hq hi
  simp only [cs_X_copy, List.mem_cons, List.not_mem_nil, or_false] at hm
  rcases hm with rfl | rfl
  · cases (Option.some.inj hq : ((.invokevirtual 130, 86, 2, 1, 0) : Ent) = q)
    exact ab_crV (C := "StreamTransport") (by decide +kernel) cw_X_isUnderWay (ab_gW_in 602 (by decide +kernel) rfl) is_X_isUnderWay sl_X_isUnderWay (by decide) (fun av m m' h => by cases h) (fun av m r h => cm_X_isUnderWay l h) KT_nd
  · cases (Option.some.inj hq : ((.invokevirtual 144, 153, 2, 0, 0) : Ent) = q)
    exact ab_crV (C := "StreamTransport$Row") (by decide +kernel) cw_Row_become (ab_gW_in 759 (by decide +kernel) rfl) is_Row_become sl_Row_become (by decide) (fun av m m' h => cm_Row_become l h) (fun av m r h => by cases h) KT_nd
theorem cw_X_copy : ab_cw y_X_copy prog_1_method_10_code 2 1 (some .boolean) := ⟨ab_gW_in 758 (by decide +kernel) rfl, ab_gW_in 61 (by decide +kernel) rfl, by decide +kernel, by decide +kernel, by decide +kernel⟩
theorem is_X_copy : Cond.instanceMethod y_X_copy ∈ ab_gW := ab_gW_in 756 (by decide +kernel) rfl
theorem sl_X_copy : Cond.selects "StreamTransport" y_X_copy y_X_copy ∈ ab_gW := ab_gW_in 757 (by decide +kernel) rfl
set_option maxRecDepth 100000 in
theorem cm_X_copy (l : Launch) {av : List AV} {m : Mm} {r : Int32 × Mm} (h0 : c_X_copy av m = some r) : ∃ (k q : Nat) (av' : List AV) (ci : Nat) (fs : List (Nat × Nat × Nat × Nat)) (z : vw_C), av = .inr (.inr (k, some q)) :: av' ∧ av'.length = 1 ∧ k ≠ 0 ∧ KT[k]? = some (.inl (ci, fs)) ∧ CL[ci]? = some z ∧ z.1 = "StreamTransport" ∧ ab_nos av' ∧ ab_Met l KT CL y_X_copy (Cond.code y_X_copy prog_1_method_10_code 2 (some .boolean) :: ab_gW) 2 56 none av m (some (.inl r.1)) r.2 := by
  obtain ⟨v0, v1, hav, h⟩ := c_X_copy_inv h0
  rw [r_X_copy_eq] at h
  have hmo : ab_mo m r.2 := ab_kp_mo (kp_X_copy h0)
  subst hav
  exact ⟨_, _, _, _, _, _, rfl, rfl, by decide, rfl, rfl, rfl, (by intro v hv q e; subst e; simp at hv), ab_met (by decide +kernel) KT_0 KT_nd KT_k3 E_X_copy (cl_X_copy l) hmo (Nat.le_of_ble_eq_true rfl) (ab_rI_inv h) (fun v hv => by cases hv; exact ⟨_, rfl⟩)⟩
end
