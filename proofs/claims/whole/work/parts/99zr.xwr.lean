section
/-! StreamTransport.write(IIIJ)I -/
def y_X_write : MethodName := ⟨"StreamTransport", "write", "(IIIJ)I"⟩
def t_X_write (pc : Nat) : Option Ent :=
  bif Nat.blt pc 44 then
    (bif Nat.blt pc 27 then
      (bif Nat.blt pc 8 then
        (bif Nat.blt pc 2 then
          (bif Nat.blt pc 1 then
            (bif Nat.beq pc 0 then some (.iload_n 1, 1, 0, 0, 0) else none)
          else
            bif Nat.beq pc 1 then some (.iload_n 2, 2, 0, 0, 0) else none)
        else
          bif Nat.blt pc 5 then
            (bif Nat.beq pc 2 then some (.invokestatic 33, 84, 2, 1, 0) else none)
          else
            bif Nat.beq pc 5 then some (.ifCond .eq (10), 15, 0, 0, 0) else none)
      else
        bif Nat.blt pc 12 then
          (bif Nat.blt pc 9 then
            (bif Nat.beq pc 8 then some (.iload_n 3, 3, 0, 0, 0) else none)
          else
            bif Nat.beq pc 9 then some (.invokestatic 37, 85, 1, 1, 0) else none)
        else
          bif Nat.blt pc 23 then
            (bif Nat.beq pc 12 then some (.ifCond .ne (11), 23, 0, 0, 0) else none)
          else
            bif Nat.blt pc 24 then
              (bif Nat.beq pc 23 then some (.aload_n 0, 0, 0, 0, 0) else none)
            else
              bif Nat.beq pc 24 then some (.getfield 11, 9, 0, 1, 0) else none)
    else
      bif Nat.blt pc 36 then
        (bif Nat.blt pc 29 then
          (bif Nat.blt pc 28 then
            (bif Nat.beq pc 27 then some (.iload_n 1, 1, 0, 0, 0) else none)
          else
            bif Nat.beq pc 28 then some (.aaload, 0, 0, 0, 0) else none)
        else
          bif Nat.blt pc 32 then
            (bif Nat.beq pc 29 then some (.getfield 44, 0, 2, 1, 0) else none)
          else
            bif Nat.blt pc 35 then
              (bif Nat.beq pc 32 then some (.getfield 48, 4, 0, 1, 0) else none)
            else
              bif Nat.beq pc 35 then some (.iload_n 2, 2, 0, 0, 0) else none)
      else
        bif Nat.blt pc 39 then
          (bif Nat.blt pc 37 then
            (bif Nat.beq pc 36 then some (.aaload, 0, 0, 0, 0) else none)
          else
            bif Nat.beq pc 37 then some (.astore 6, 6, 0, 0, 0) else none)
        else
          bif Nat.blt pc 40 then
            (bif Nat.beq pc 39 then some (.aload_n 0, 0, 0, 0, 0) else none)
          else
            bif Nat.blt pc 43 then
              (bif Nat.beq pc 40 then some (.getfield 11, 9, 0, 1, 0) else none)
            else
              bif Nat.beq pc 43 then some (.iload_n 1, 1, 0, 0, 0) else none)
  else
    bif Nat.blt pc 65 then
      (bif Nat.blt pc 53 then
        (bif Nat.blt pc 48 then
          (bif Nat.blt pc 45 then
            (bif Nat.beq pc 44 then some (.aaload, 0, 0, 0, 0) else none)
          else
            bif Nat.beq pc 45 then some (.invokevirtual 54, 67, 1, 1, 0) else none)
        else
          bif Nat.blt pc 51 then
            (bif Nat.beq pc 48 then some (.ifCond .eq (23), 71, 0, 0, 0) else none)
          else
            bif Nat.beq pc 51 then some (.aload 6, 6, 0, 0, 0) else none)
      else
        bif Nat.blt pc 59 then
          (bif Nat.blt pc 56 then
            (bif Nat.beq pc 53 then some (.invokevirtual 58, 30, 1, 1, 0) else none)
          else
            bif Nat.beq pc 56 then some (.ifCond .eq (15), 71, 0, 0, 0) else none)
        else
          bif Nat.blt pc 61 then
            (bif Nat.beq pc 59 then some (.aload 6, 6, 0, 0, 0) else none)
          else
            bif Nat.blt pc 64 then
              (bif Nat.beq pc 61 then some (.getfield 63, 5, 2, 0, 0) else none)
            else
              bif Nat.beq pc 64 then some (.iload_n 3, 3, 0, 0, 0) else none)
    else
      bif Nat.blt pc 82 then
        (bif Nat.blt pc 68 then
          (bif Nat.blt pc 66 then
            (bif Nat.beq pc 65 then some (.iadd, 0, 0, 0, 0) else none)
          else
            bif Nat.beq pc 66 then some (.bipush 64, 0, 0, 0, 64) else none)
        else
          bif Nat.blt pc 79 then
            (bif Nat.beq pc 68 then some (.if_icmp .le (11), 79, 0, 0, 0) else none)
          else
            bif Nat.blt pc 81 then
              (bif Nat.beq pc 79 then some (.aload 6, 6, 0, 0, 0) else none)
            else
              bif Nat.beq pc 81 then some (.iload_n 3, 3, 0, 0, 0) else none)
      else
        bif Nat.blt pc 87 then
          (bif Nat.blt pc 84 then
            (bif Nat.beq pc 82 then some (.lload 4, 4, 0, 0, 0) else none)
          else
            bif Nat.beq pc 84 then some (.invokevirtual 70, 31, 3, 0, 0) else none)
        else
          bif Nat.blt pc 89 then
            (bif Nat.beq pc 87 then some (.aload 6, 6, 0, 0, 0) else none)
          else
            bif Nat.blt pc 92 then
              (bif Nat.beq pc 89 then some (.getfield 63, 5, 2, 0, 0) else none)
            else
              bif Nat.beq pc 92 then some (.ireturn, 0, 0, 0, 0) else none
def i_X_write : Nat → Option Ent := ab_tab 93 t_X_write
def h_X_write (pc : Nat) : Nat × List Bool := bif Nat.beq pc 71 then (2, []) else bif Nat.beq pc 15 then (2, []) else (0, [])
def s_X_write (pc : Nat) : List (Int32 × Nat) × Nat := ([], 0)
noncomputable def eV_X_write : Nat → List AV → Mm → Option Mm := ab_ev [(31, c_Out_append)]
noncomputable def eI_X_write : Nat → List AV → Mm → Option (Int32 × Mm) := ab_ev [(84, c_X_isStream), (85, c_X_isCallBytes), (67, c_End_isOpen), (30, c_Out_isGrowing)]
noncomputable def b_X_write_0 (f : Nat) (v0 : Nat) (v1 : Int32) (v2 : Int32) (v3 : Int32) (v4 : Int64) (m : Mm) : Option Rs := ab_ex KT none s_X_write eV_X_write eI_X_write i_X_write h_X_write f 0 [some (.inr (.inr (1, some v0))), some (.inl v1), some (.inl v2), some (.inl v3), some (.inr (.inl v4)), none, none] [] m
set_option maxRecDepth 100000 in
set_option maxHeartbeats 4000000 in
theorem b_X_write_0_eq (f : Nat) (v0 : Nat) (v1 : Int32) (v2 : Int32) (v3 : Int32) (v4 : Int64) (m : Mm) : b_X_write_0 (f + 1) v0 v1 v2 v3 v4 m =
    (r_X_isStream v1 v2 m).bind fun z1 =>
    if z1.1 = 0 then
      some (.inr (15, [some (.inr (.inr (1, some v0))), some (.inl v1), some (.inl v2), some (.inl v3), some (.inr (.inl v4)), none, none], [], z1.2))
    else
      (r_X_isCallBytes v3 z1.2).bind fun z2 =>
      if z2.1 = 0 then
        some (.inr (15, [some (.inr (.inr (1, some v0))), some (.inl v1), some (.inl v2), some (.inl v3), some (.inr (.inl v4)), none, none], [], z2.2))
      else
        (ab_ix v1 2).bind fun i3 =>
        (ab_ix v2 4).bind fun i4 =>
        (ab_ix v1 2).bind fun i5 =>
        (r_End_isOpen ((v0 + 1) + 5 + 30 * i5) z2.2).bind fun z6 =>
        if z6.1 = 0 then
          some (.inr (71, [some (.inr (.inr (1, some v0))), some (.inl v1), some (.inl v2), some (.inl v3), some (.inr (.inl v4)), none, some (.inr (.inr (19, some (((((v0 + 1) + 5 + 30 * i3) + 16) + 1) + 1 + 3 * i4))))], [], z6.2))
        else
          (r_Out_isGrowing (((((v0 + 1) + 5 + 30 * i3) + 16) + 1) + 1 + 3 * i4) z6.2).bind fun z7 =>
          if z7.1 = 0 then
            some (.inr (71, [some (.inr (.inr (1, some v0))), some (.inl v1), some (.inl v2), some (.inl v3), some (.inr (.inl v4)), none, some (.inr (.inr (19, some (((((v0 + 1) + 5 + 30 * i3) + 16) + 1) + 1 + 3 * i4))))], [], z7.2))
          else
            if ((z7.2.1 59 (((((v0 + 1) + 5 + 30 * i3) + 16) + 1) + 1 + 3 * i4) 0) + v3) ≤ (64 : Int32) then
              (r_Out_append (((((v0 + 1) + 5 + 30 * i3) + 16) + 1) + 1 + 3 * i4) v3 v4 z7.2).bind fun m8 =>
              some (.inl (some (.inl (m8.1 59 (((((v0 + 1) + 5 + 30 * i3) + 16) + 1) + 1 + 3 * i4) 0)), m8))
            else
              some (.inr (71, [some (.inr (.inr (1, some v0))), some (.inl v1), some (.inl v2), some (.inl v3), some (.inr (.inl v4)), none, some (.inr (.inr (19, some (((((v0 + 1) + 5 + 30 * i3) + 16) + 1) + 1 + 3 * i4))))], [], z7.2)) := rfl
noncomputable def r_X_write : Nat → Int32 → Int32 → Int32 → Int64 → Mm → Option (Int32 × Mm) := ab_seal fun v0 v1 v2 v3 v4 m => ab_rI (b_X_write_0 50000 v0 v1 v2 v3 v4 m)
theorem r_X_write_eq (v0 : Nat) (v1 : Int32) (v2 : Int32) (v3 : Int32) (v4 : Int64) (m : Mm) : r_X_write v0 v1 v2 v3 v4 m = ab_rI (b_X_write_0 50000 v0 v1 v2 v3 v4 m) := by
  unfold r_X_write
  rw [ab_seal_eq]
noncomputable def c_X_write : List AV → Mm → Option (Int32 × Mm) := fun av m => match av with
  | [.inr (.inr (kv0, ov0)), .inl v1, .inl v2, .inl v3, .inr (.inl v4)] => if kv0 = 1 then (ov0.bind fun v0 => r_X_write v0 v1 v2 v3 v4 m) else none
  | _ => none
theorem c_X_write_inv {av : List AV} {m : Mm} {r : Int32 × Mm} (h : c_X_write av m = some r) : ∃ (v0 : Nat) (v1 : Int32) (v2 : Int32) (v3 : Int32) (v4 : Int64), av = [.inr (.inr (1, some v0)), .inl v1, .inl v2, .inl v3, .inr (.inl v4)] ∧ r_X_write v0 v1 v2 v3 v4 m = some r := by
  unfold c_X_write at h
  split at h
  · rename_i kv0 ov0 v1 v2 v3 v4
    by_cases hkv0 : kv0 = 1
    case neg => rw [if_neg hkv0] at h; cases h
    rw [if_pos hkv0] at h
    subst hkv0
    obtain ⟨v0, hev0, h⟩ := Option.bind_eq_some_iff.mp h
    subst hev0
    exact ⟨v0, v1, v2, v3, v4, rfl, h⟩
  · cases h
def cs_X_write : List Nat := [2, 9, 45, 53, 84]
set_option maxRecDepth 100000 in
theorem E_X_write : ∀ (pc : Nat) (q : Ent), i_X_write pc = some q → ab_E KT CL ab_gW "StreamTransport" "write" (some .int) prog_1_method_2_code s_X_write 7 pc q.1 q.2.1 q.2.2.1 q.2.2.2.1 q.2.2.2.2 := fun pc q hq =>
  ab_Eb_ok lc_X lj_X fl_X (fpn_X "write") nw_X na_X nq_X (ab_tab_all (t := t_X_write) (chk := fun pc q => ab_Eb (some .int) prog_1_method_2_code s_X_write 7 LC_X LJ_X FL_X FPn_X NW_X NA_X NQ_X pc q.1 q.2.1 q.2.2.1 q.2.2.2.1 q.2.2.2.2) (by decide +kernel) hq)
set_option maxRecDepth 100000 in
theorem kp_X_write {av : List AV} {m : Mm} {r : Int32 × Mm} (h : c_X_write av m = some r) : ab_kp m r.2 := by
  obtain ⟨v0, v1, v2, v3, v4, -, h⟩ := c_X_write_inv h
  rw [r_X_write_eq] at h
  have hV : ∀ a av m m', eV_X_write a av m = some m' → ab_kp m m' := ab_ev_all (P := fun _ m r => ab_kp m r) [(31, c_Out_append)] (List.forall_mem_cons.mpr ⟨fun av m r h => kp_Out_append h, fun q hq => by cases hq⟩)
  have hI : ∀ a av m q, eI_X_write a av m = some q → ab_kp m q.2 := ab_ev_all (P := fun _ (m : Mm) (r : Int32 × Mm) => ab_kp m r.2) [(84, c_X_isStream), (85, c_X_isCallBytes), (67, c_End_isOpen), (30, c_Out_isGrowing)] (List.forall_mem_cons.mpr ⟨fun av m r h => kp_X_isStream h, List.forall_mem_cons.mpr ⟨fun av m r h => kp_X_isCallBytes h, List.forall_mem_cons.mpr ⟨fun av m r h => kp_End_isOpen h, List.forall_mem_cons.mpr ⟨fun av m r h => kp_Out_isGrowing h, fun q hq => by cases hq⟩⟩⟩⟩)
  exact ab_kprel (ρ := .inl (some (.inl r.1), r.2)) (ab_tab_isn (t := t_X_write) (by decide +kernel)) hV hI (ab_rI_inv h)
set_option maxRecDepth 100000 in
theorem cl_X_write (l : Launch) : ∀ (pc : Nat) (q : Ent), i_X_write pc = some q → ab_inv q.1 = true → ab_CR l KT CL none ab_gW "StreamTransport" prog_1_method_2_code 7 6 100 eV_X_write eI_X_write pc q := by
  intro pc q hq hi
  have hm : pc ∈ cs_X_write := ab_tab_cs (t := t_X_write) (by decide +kernel) hq hi
  simp only [cs_X_write, List.mem_cons, List.not_mem_nil, or_false] at hm
  rcases hm with rfl | rfl | rfl | rfl | rfl
  · cases (Option.some.inj hq : ((.invokestatic 33, 84, 2, 1, 0) : Ent) = q)
    exact ab_crS (by decide +kernel) cw_X_isStream (ab_gW_in 367 (by decide +kernel) rfl) st_X_isStream (by decide) (fun av m m' h => by cases h) (fun av m r h => cm_X_isStream l h) KT_nd
  · cases (Option.some.inj hq : ((.invokestatic 37, 85, 1, 1, 0) : Ent) = q)
    exact ab_crS (by decide +kernel) cw_X_isCallBytes (ab_gW_in 774 (by decide +kernel) rfl) st_X_isCallBytes (by decide) (fun av m m' h => by cases h) (fun av m r h => cm_X_isCallBytes l h) KT_nd
  · cases (Option.some.inj hq : ((.invokevirtual 54, 67, 1, 1, 0) : Ent) = q)
    exact ab_crV (C := "StreamTransport$End") (by decide +kernel) cw_End_isOpen (ab_gW_in 373 (by decide +kernel) rfl) is_End_isOpen sl_End_isOpen (by decide) (fun av m m' h => by cases h) (fun av m r h => cm_End_isOpen l h) KT_nd
  · cases (Option.some.inj hq : ((.invokevirtual 58, 30, 1, 1, 0) : Ent) = q)
    exact ab_crV (C := "StreamTransport$Outgoing") (by decide +kernel) cw_Out_isGrowing (ab_gW_in 377 (by decide +kernel) rfl) is_Out_isGrowing sl_Out_isGrowing (by decide) (fun av m m' h => by cases h) (fun av m r h => cm_Out_isGrowing l h) KT_nd
  · cases (Option.some.inj hq : ((.invokevirtual 70, 31, 3, 0, 0) : Ent) = q)
    exact ab_crV (C := "StreamTransport$Outgoing") (by decide +kernel) cw_Out_append (ab_gW_in 928 (by decide +kernel) rfl) is_Out_append sl_Out_append (by decide) (fun av m m' h => cm_Out_append l h) (fun av m r h => by cases h) KT_nd
theorem cw_X_write : ab_cw y_X_write prog_1_method_2_code 7 4 (some .int) := ⟨ab_gW_in 848 (by decide +kernel) rfl, ab_gW_in 61 (by decide +kernel) rfl, by decide +kernel, by decide +kernel, by decide +kernel⟩
theorem is_X_write : Cond.instanceMethod y_X_write ∈ ab_gW := ab_gW_in 846 (by decide +kernel) rfl
theorem sl_X_write : Cond.selects "StreamTransport" y_X_write y_X_write ∈ ab_gW := ab_gW_in 847 (by decide +kernel) rfl
set_option maxRecDepth 100000 in
theorem cm_X_write (l : Launch) {av : List AV} {m : Mm} {r : Int32 × Mm} (h0 : c_X_write av m = some r) : ∃ (k q : Nat) (av' : List AV) (ci : Nat) (fs : List (Nat × Nat × Nat × Nat)) (z : vw_C), av = .inr (.inr (k, some q)) :: av' ∧ av'.length = 4 ∧ k ≠ 0 ∧ KT[k]? = some (.inl (ci, fs)) ∧ CL[ci]? = some z ∧ z.1 = "StreamTransport" ∧ ab_nos av' ∧ ab_Met l KT CL y_X_write (Cond.code y_X_write prog_1_method_2_code 7 (some .int) :: ab_gW) 6 100 none av m (some (.inl r.1)) r.2 := by
  obtain ⟨v0, v1, v2, v3, v4, hav, h⟩ := c_X_write_inv h0
  rw [r_X_write_eq] at h
  have hmo : ab_mo m r.2 := ab_kp_mo (kp_X_write h0)
  subst hav
  exact ⟨_, _, _, _, _, _, rfl, rfl, by decide, rfl, rfl, rfl, (by intro v hv q e; subst e; simp at hv), ab_met (by decide +kernel) KT_0 KT_nd KT_k3 E_X_write (cl_X_write l) hmo (Nat.le_of_ble_eq_true rfl) (ab_rI_inv h) (fun v hv => by cases hv; exact ⟨_, rfl⟩)⟩
/-! StreamTransport.read(II)I -/
def y_X_read : MethodName := ⟨"StreamTransport", "read", "(II)I"⟩
def t_X_read (pc : Nat) : Option Ent :=
  bif Nat.blt pc 46 then
    (bif Nat.blt pc 22 then
      (bif Nat.blt pc 16 then
        (bif Nat.blt pc 2 then
          (bif Nat.blt pc 1 then
            (bif Nat.beq pc 0 then some (.iload_n 1, 1, 0, 0, 0) else none)
          else
            bif Nat.beq pc 1 then some (.iload_n 2, 2, 0, 0, 0) else none)
        else
          bif Nat.blt pc 5 then
            (bif Nat.beq pc 2 then some (.invokestatic 33, 84, 2, 1, 0) else none)
          else
            bif Nat.beq pc 5 then some (.ifCond .ne (11), 16, 0, 0, 0) else none)
      else
        bif Nat.blt pc 20 then
          (bif Nat.blt pc 17 then
            (bif Nat.beq pc 16 then some (.aload_n 0, 0, 0, 0, 0) else none)
          else
            bif Nat.beq pc 17 then some (.getfield 11, 9, 0, 1, 0) else none)
        else
          bif Nat.blt pc 21 then
            (bif Nat.beq pc 20 then some (.iload_n 1, 1, 0, 0, 0) else none)
          else
            bif Nat.beq pc 21 then some (.aaload, 0, 0, 0, 0) else none)
    else
      bif Nat.blt pc 30 then
        (bif Nat.blt pc 28 then
          (bif Nat.blt pc 25 then
            (bif Nat.beq pc 22 then some (.getfield 81, 0, 1, 1, 0) else none)
          else
            bif Nat.beq pc 25 then some (.getfield 85, 2, 0, 1, 0) else none)
        else
          bif Nat.blt pc 29 then
            (bif Nat.beq pc 28 then some (.iload_n 2, 2, 0, 0, 0) else none)
          else
            bif Nat.beq pc 29 then some (.aaload, 0, 0, 0, 0) else none)
      else
        bif Nat.blt pc 32 then
          (bif Nat.blt pc 31 then
            (bif Nat.beq pc 30 then some (.astore_n 3, 3, 0, 0, 0) else none)
          else
            bif Nat.beq pc 31 then some (.aload_n 3, 3, 0, 0, 0) else none)
        else
          bif Nat.blt pc 35 then
            (bif Nat.beq pc 32 then some (.getfield 90, 1, 5, 0, 0) else none)
          else
            bif Nat.beq pc 35 then some (.ifCond .eq (11), 46, 0, 0, 0) else none)
  else
    bif Nat.blt pc 80 then
      (bif Nat.blt pc 54 then
        (bif Nat.blt pc 50 then
          (bif Nat.blt pc 47 then
            (bif Nat.beq pc 46 then some (.aload_n 3, 3, 0, 0, 0) else none)
          else
            bif Nat.beq pc 47 then some (.getfield 93, 1, 1, 0, 0) else none)
        else
          bif Nat.blt pc 51 then
            (bif Nat.beq pc 50 then some (.aload_n 3, 3, 0, 0, 0) else none)
          else
            bif Nat.beq pc 51 then some (.getfield 96, 1, 3, 0, 0) else none)
      else
        bif Nat.blt pc 66 then
          (bif Nat.blt pc 65 then
            (bif Nat.beq pc 54 then some (.if_icmp .ne (11), 65, 0, 0, 0) else none)
          else
            bif Nat.beq pc 65 then some (.aload_n 3, 3, 0, 0, 0) else none)
        else
          bif Nat.blt pc 69 then
            (bif Nat.beq pc 66 then some (.invokevirtual 102, 48, 1, 1, 0) else none)
          else
            bif Nat.beq pc 69 then some (.ifCond .ne (11), 80, 0, 0, 0) else none)
    else
      bif Nat.blt pc 86 then
        (bif Nat.blt pc 84 then
          (bif Nat.blt pc 81 then
            (bif Nat.beq pc 80 then some (.aload_n 0, 0, 0, 0, 0) else none)
          else
            bif Nat.beq pc 81 then some (.getfield 11, 9, 0, 1, 0) else none)
        else
          bif Nat.blt pc 85 then
            (bif Nat.beq pc 84 then some (.iload_n 1, 1, 0, 0, 0) else none)
          else
            bif Nat.beq pc 85 then some (.aaload, 0, 0, 0, 0) else none)
      else
        bif Nat.blt pc 90 then
          (bif Nat.blt pc 89 then
            (bif Nat.beq pc 86 then some (.getfield 81, 0, 1, 1, 0) else none)
          else
            bif Nat.beq pc 89 then some (.aload_n 3, 3, 0, 0, 0) else none)
        else
          bif Nat.blt pc 93 then
            (bif Nat.beq pc 90 then some (.invokevirtual 109, 58, 2, 1, 0) else none)
          else
            bif Nat.beq pc 93 then some (.ireturn, 0, 0, 0, 0) else none
def i_X_read : Nat → Option Ent := ab_tab 94 t_X_read
def h_X_read (pc : Nat) : Nat × List Bool := bif Nat.beq pc 72 then (2, []) else bif Nat.beq pc 57 then (2, []) else bif Nat.beq pc 38 then (2, []) else bif Nat.beq pc 8 then (2, []) else (0, [])
def s_X_read (pc : Nat) : List (Int32 × Nat) × Nat := ([], 0)
noncomputable def eV_X_read : Nat → List AV → Mm → Option Mm := ab_ev []
noncomputable def eI_X_read : Nat → List AV → Mm → Option (Int32 × Mm) := ab_ev [(84, c_X_isStream), (48, c_Inc_ready), (58, c_Int_takeByte)]
noncomputable def b_X_read_0 (f : Nat) (v0 : Nat) (v1 : Int32) (v2 : Int32) (m : Mm) : Option Rs := ab_ex KT none s_X_read eV_X_read eI_X_read i_X_read h_X_read f 0 [some (.inr (.inr (1, some v0))), some (.inl v1), some (.inl v2), none] [] m
set_option maxRecDepth 100000 in
set_option maxHeartbeats 4000000 in
theorem b_X_read_0_eq (f : Nat) (v0 : Nat) (v1 : Int32) (v2 : Int32) (m : Mm) : b_X_read_0 (f + 1) v0 v1 v2 m =
    (r_X_isStream v1 v2 m).bind fun z1 =>
    if z1.1 = 0 then
      some (.inr (8, [some (.inr (.inr (1, some v0))), some (.inl v1), some (.inl v2), none], [], z1.2))
    else
      (ab_ix v1 2).bind fun i2 =>
      (ab_ix v2 4).bind fun i3 =>
      if (z1.2.1 51 (((((v0 + 1) + 5 + 30 * i2) + 6) + 1) + 1 + 2 * i3) 0) = 0 then
        if (z1.2.1 47 (((((v0 + 1) + 5 + 30 * i2) + 6) + 1) + 1 + 2 * i3) 0) = (z1.2.1 49 (((((v0 + 1) + 5 + 30 * i2) + 6) + 1) + 1 + 2 * i3) 0) then
          some (.inr (57, [some (.inr (.inr (1, some v0))), some (.inl v1), some (.inl v2), some (.inr (.inr (15, some (((((v0 + 1) + 5 + 30 * i2) + 6) + 1) + 1 + 2 * i3))))], [], z1.2))
        else
          (r_Inc_ready (((((v0 + 1) + 5 + 30 * i2) + 6) + 1) + 1 + 2 * i3) z1.2).bind fun z4 =>
          if z4.1 = 0 then
            some (.inr (72, [some (.inr (.inr (1, some v0))), some (.inl v1), some (.inl v2), some (.inr (.inr (15, some (((((v0 + 1) + 5 + 30 * i2) + 6) + 1) + 1 + 2 * i3))))], [], z4.2))
          else
            (ab_ix v1 2).bind fun i5 =>
            (r_Int_takeByte (((v0 + 1) + 5 + 30 * i5) + 6) (((((v0 + 1) + 5 + 30 * i2) + 6) + 1) + 1 + 2 * i3) z4.2).bind fun z6 =>
            some (.inl (some (.inl z6.1), z6.2))
      else
        some (.inr (38, [some (.inr (.inr (1, some v0))), some (.inl v1), some (.inl v2), some (.inr (.inr (15, some (((((v0 + 1) + 5 + 30 * i2) + 6) + 1) + 1 + 2 * i3))))], [], z1.2)) := rfl
noncomputable def r_X_read : Nat → Int32 → Int32 → Mm → Option (Int32 × Mm) := ab_seal fun v0 v1 v2 m => ab_rI (b_X_read_0 50000 v0 v1 v2 m)
theorem r_X_read_eq (v0 : Nat) (v1 : Int32) (v2 : Int32) (m : Mm) : r_X_read v0 v1 v2 m = ab_rI (b_X_read_0 50000 v0 v1 v2 m) := by
  unfold r_X_read
  rw [ab_seal_eq]
noncomputable def c_X_read : List AV → Mm → Option (Int32 × Mm) := fun av m => match av with
  | [.inr (.inr (kv0, ov0)), .inl v1, .inl v2] => if kv0 = 1 then (ov0.bind fun v0 => r_X_read v0 v1 v2 m) else none
  | _ => none
theorem c_X_read_inv {av : List AV} {m : Mm} {r : Int32 × Mm} (h : c_X_read av m = some r) : ∃ (v0 : Nat) (v1 : Int32) (v2 : Int32), av = [.inr (.inr (1, some v0)), .inl v1, .inl v2] ∧ r_X_read v0 v1 v2 m = some r := by
  unfold c_X_read at h
  split at h
  · rename_i kv0 ov0 v1 v2
    by_cases hkv0 : kv0 = 1
    case neg => rw [if_neg hkv0] at h; cases h
    rw [if_pos hkv0] at h
    subst hkv0
    obtain ⟨v0, hev0, h⟩ := Option.bind_eq_some_iff.mp h
    subst hev0
    exact ⟨v0, v1, v2, rfl, h⟩
  · cases h
def cs_X_read : List Nat := [2, 66, 90]
set_option maxRecDepth 100000 in
theorem E_X_read : ∀ (pc : Nat) (q : Ent), i_X_read pc = some q → ab_E KT CL ab_gW "StreamTransport" "read" (some .int) prog_1_method_5_code s_X_read 4 pc q.1 q.2.1 q.2.2.1 q.2.2.2.1 q.2.2.2.2 := fun pc q hq =>
  ab_Eb_ok lc_X lj_X fl_X (fpn_X "read") nw_X na_X nq_X (ab_tab_all (t := t_X_read) (chk := fun pc q => ab_Eb (some .int) prog_1_method_5_code s_X_read 4 LC_X LJ_X FL_X FPn_X NW_X NA_X NQ_X pc q.1 q.2.1 q.2.2.1 q.2.2.2.1 q.2.2.2.2) (by decide +kernel) hq)
set_option maxRecDepth 100000 in
theorem kp_X_read {av : List AV} {m : Mm} {r : Int32 × Mm} (h : c_X_read av m = some r) : ab_kp m r.2 := by
  obtain ⟨v0, v1, v2, -, h⟩ := c_X_read_inv h
  rw [r_X_read_eq] at h
  have hV : ∀ a av m m', eV_X_read a av m = some m' → ab_kp m m' := ab_ev_all (P := fun _ m r => ab_kp m r) [] (fun q hq => by cases hq)
  have hI : ∀ a av m q, eI_X_read a av m = some q → ab_kp m q.2 := ab_ev_all (P := fun _ (m : Mm) (r : Int32 × Mm) => ab_kp m r.2) [(84, c_X_isStream), (48, c_Inc_ready), (58, c_Int_takeByte)] (List.forall_mem_cons.mpr ⟨fun av m r h => kp_X_isStream h, List.forall_mem_cons.mpr ⟨fun av m r h => kp_Inc_ready h, List.forall_mem_cons.mpr ⟨fun av m r h => kp_Int_takeByte h, fun q hq => by cases hq⟩⟩⟩)
  exact ab_kprel (ρ := .inl (some (.inl r.1), r.2)) (ab_tab_isn (t := t_X_read) (by decide +kernel)) hV hI (ab_rI_inv h)
set_option maxRecDepth 100000 in
theorem cl_X_read (l : Launch) : ∀ (pc : Nat) (q : Ent), i_X_read pc = some q → ab_inv q.1 = true → ab_CR l KT CL none ab_gW "StreamTransport" prog_1_method_5_code 4 6 100 eV_X_read eI_X_read pc q := by
  intro pc q hq hi
  have hm : pc ∈ cs_X_read := ab_tab_cs (t := t_X_read) (by decide +kernel) hq hi
  simp only [cs_X_read, List.mem_cons, List.not_mem_nil, or_false] at hm
  rcases hm with rfl | rfl | rfl
  · cases (Option.some.inj hq : ((.invokestatic 33, 84, 2, 1, 0) : Ent) = q)
    exact ab_crS (by decide +kernel) cw_X_isStream (ab_gW_in 367 (by decide +kernel) rfl) st_X_isStream (by decide) (fun av m m' h => by cases h) (fun av m r h => cm_X_isStream l h) KT_nd
  · cases (Option.some.inj hq : ((.invokevirtual 102, 48, 1, 1, 0) : Ent) = q)
    exact ab_crV (C := "StreamTransport$Incoming") (by decide +kernel) cw_Inc_ready (ab_gW_in 833 (by decide +kernel) rfl) is_Inc_ready sl_Inc_ready (by decide) (fun av m m' h => by cases h) (fun av m r h => cm_Inc_ready l h) KT_nd
  · cases (Option.some.inj hq : ((.invokevirtual 109, 58, 2, 1, 0) : Ent) = q)
    exact ab_crV (C := "StreamTransport$Intake") (by decide +kernel) cw_Int_takeByte (ab_gW_in 972 (by decide +kernel) rfl) is_Int_takeByte sl_Int_takeByte (by decide) (fun av m m' h => by cases h) (fun av m r h => cm_Int_takeByte l h) KT_nd
theorem cw_X_read : ab_cw y_X_read prog_1_method_5_code 4 2 (some .int) := ⟨ab_gW_in 941 (by decide +kernel) rfl, ab_gW_in 61 (by decide +kernel) rfl, by decide +kernel, by decide +kernel, by decide +kernel⟩
theorem is_X_read : Cond.instanceMethod y_X_read ∈ ab_gW := ab_gW_in 939 (by decide +kernel) rfl
theorem sl_X_read : Cond.selects "StreamTransport" y_X_read y_X_read ∈ ab_gW := ab_gW_in 940 (by decide +kernel) rfl
set_option maxRecDepth 100000 in
theorem cm_X_read (l : Launch) {av : List AV} {m : Mm} {r : Int32 × Mm} (h0 : c_X_read av m = some r) : ∃ (k q : Nat) (av' : List AV) (ci : Nat) (fs : List (Nat × Nat × Nat × Nat)) (z : vw_C), av = .inr (.inr (k, some q)) :: av' ∧ av'.length = 2 ∧ k ≠ 0 ∧ KT[k]? = some (.inl (ci, fs)) ∧ CL[ci]? = some z ∧ z.1 = "StreamTransport" ∧ ab_nos av' ∧ ab_Met l KT CL y_X_read (Cond.code y_X_read prog_1_method_5_code 4 (some .int) :: ab_gW) 6 100 none av m (some (.inl r.1)) r.2 := by
  obtain ⟨v0, v1, v2, hav, h⟩ := c_X_read_inv h0
  rw [r_X_read_eq] at h
  have hmo : ab_mo m r.2 := ab_kp_mo (kp_X_read h0)
  subst hav
  exact ⟨_, _, _, _, _, _, rfl, rfl, by decide, rfl, rfl, rfl, (by intro v hv q e; subst e; simp at hv), ab_met (by decide +kernel) KT_0 KT_nd KT_k3 E_X_read (cl_X_read l) hmo (Nat.le_of_ble_eq_true rfl) (ab_rI_inv h) (fun v hv => by cases hv; exact ⟨_, rfl⟩)⟩
end
