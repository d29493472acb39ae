section
/-! StreamTransport.send(I)I -/
def y_X_send : MethodName := ⟨"StreamTransport", "send", "(I)I"⟩
def t_X_send (pc : Nat) : Option Ent :=
  bif Nat.blt pc 39 then
    (bif Nat.blt pc 22 then
      (bif Nat.blt pc 9 then
        (bif Nat.blt pc 4 then
          (bif Nat.blt pc 1 then
            (bif Nat.beq pc 0 then some (.iload_n 1, 1, 0, 0, 0) else none)
          else
            bif Nat.beq pc 1 then some (.invokestatic 113, 83, 1, 1, 0) else none)
        else
          bif Nat.blt pc 7 then
            (bif Nat.beq pc 4 then some (.ifCond .ne (5), 9, 0, 0, 0) else none)
          else
            bif Nat.blt pc 8 then
              (bif Nat.beq pc 7 then some (.iconst (-1), 0, 0, 0, -1) else none)
            else
              bif Nat.beq pc 8 then some (.ireturn, 0, 0, 0, 0) else none)
      else
        bif Nat.blt pc 15 then
          (bif Nat.blt pc 10 then
            (bif Nat.beq pc 9 then some (.aload_n 0, 0, 0, 0, 0) else none)
          else
            bif Nat.blt pc 13 then
              (bif Nat.beq pc 10 then some (.getfield 120, 9, 4, 0, 0) else none)
            else
              bif Nat.beq pc 13 then some (.bipush 16, 0, 0, 0, 16) else none)
        else
          bif Nat.blt pc 18 then
            (bif Nat.beq pc 15 then some (.if_icmp .ge (7), 22, 0, 0, 0) else none)
          else
            bif Nat.blt pc 19 then
              (bif Nat.beq pc 18 then some (.iconst 1, 0, 0, 0, 1) else none)
            else
              bif Nat.beq pc 19 then some (.goto 4, 23, 0, 0, 0) else none)
    else
      bif Nat.blt pc 29 then
        (bif Nat.blt pc 24 then
          (bif Nat.blt pc 23 then
            (bif Nat.beq pc 22 then some (.iconst 0, 0, 0, 0, 0) else none)
          else
            bif Nat.beq pc 23 then some (.istore_n 2, 2, 0, 0, 0) else none)
        else
          bif Nat.blt pc 25 then
            (bif Nat.beq pc 24 then some (.aload_n 0, 0, 0, 0, 0) else none)
          else
            bif Nat.blt pc 28 then
              (bif Nat.beq pc 25 then some (.getfield 11, 9, 0, 1, 0) else none)
            else
              bif Nat.beq pc 28 then some (.iload_n 1, 1, 0, 0, 0) else none)
      else
        bif Nat.blt pc 34 then
          (bif Nat.blt pc 30 then
            (bif Nat.beq pc 29 then some (.aaload, 0, 0, 0, 0) else none)
          else
            bif Nat.blt pc 31 then
              (bif Nat.beq pc 30 then some (.iload_n 2, 2, 0, 0, 0) else none)
            else
              bif Nat.beq pc 31 then some (.ifCond .eq (15), 46, 0, 0, 0) else none)
        else
          bif Nat.blt pc 35 then
            (bif Nat.beq pc 34 then some (.aload_n 0, 0, 0, 0, 0) else none)
          else
            bif Nat.blt pc 38 then
              (bif Nat.beq pc 35 then some (.getfield 17, 9, 1, 1, 0) else none)
            else
              bif Nat.beq pc 38 then some (.aload_n 0, 0, 0, 0, 0) else none)
  else
    bif Nat.blt pc 60 then
      (bif Nat.blt pc 50 then
        (bif Nat.blt pc 43 then
          (bif Nat.blt pc 42 then
            (bif Nat.beq pc 39 then some (.getfield 120, 9, 4, 0, 0) else none)
          else
            bif Nat.beq pc 42 then some (.aaload, 0, 0, 0, 0) else none)
        else
          bif Nat.blt pc 46 then
            (bif Nat.beq pc 43 then some (.goto 7, 50, 0, 0, 0) else none)
          else
            bif Nat.blt pc 47 then
              (bif Nat.beq pc 46 then some (.aload_n 0, 0, 0, 0, 0) else none)
            else
              bif Nat.beq pc 47 then some (.getfield 22, 9, 2, 1, 0) else none)
      else
        bif Nat.blt pc 57 then
          (bif Nat.blt pc 51 then
            (bif Nat.beq pc 50 then some (.aload_n 0, 0, 0, 0, 0) else none)
          else
            bif Nat.blt pc 54 then
              (bif Nat.beq pc 51 then some (.getfield 123, 9, 6, 0, 0) else none)
            else
              bif Nat.beq pc 54 then some (.invokevirtual 126, 168, 3, 1, 0) else none)
        else
          bif Nat.blt pc 58 then
            (bif Nat.beq pc 57 then some (.istore_n 3, 3, 0, 0, 0) else none)
          else
            bif Nat.blt pc 59 then
              (bif Nat.beq pc 58 then some (.iload_n 3, 3, 0, 0, 0) else none)
            else
              bif Nat.beq pc 59 then some (.iconst (-1), 0, 0, 0, -1) else none)
    else
      bif Nat.blt pc 69 then
        (bif Nat.blt pc 64 then
          (bif Nat.blt pc 63 then
            (bif Nat.beq pc 60 then some (.if_icmp .eq (17), 77, 0, 0, 0) else none)
          else
            bif Nat.beq pc 63 then some (.iload_n 2, 2, 0, 0, 0) else none)
        else
          bif Nat.blt pc 67 then
            (bif Nat.beq pc 64 then some (.ifCond .eq (13), 77, 0, 0, 0) else none)
          else
            bif Nat.blt pc 68 then
              (bif Nat.beq pc 67 then some (.aload_n 0, 0, 0, 0, 0) else none)
            else
              bif Nat.beq pc 68 then some (.dup, 0, 0, 1, 0) else none)
      else
        bif Nat.blt pc 74 then
          (bif Nat.blt pc 72 then
            (bif Nat.beq pc 69 then some (.getfield 120, 9, 4, 0, 0) else none)
          else
            bif Nat.blt pc 73 then
              (bif Nat.beq pc 72 then some (.iconst 1, 0, 0, 0, 1) else none)
            else
              bif Nat.beq pc 73 then some (.iadd, 0, 0, 0, 0) else none)
        else
          bif Nat.blt pc 77 then
            (bif Nat.beq pc 74 then some (.putfield 120, 9, 4, 0, 0) else none)
          else
            bif Nat.blt pc 78 then
              (bif Nat.beq pc 77 then some (.iload_n 3, 3, 0, 0, 0) else none)
            else
              bif Nat.beq pc 78 then some (.ireturn, 0, 0, 0, 0) else none
def i_X_send : Nat → Option Ent := ab_tab 79 t_X_send
def h_X_send (pc : Nat) : Nat × List Bool := bif Nat.beq pc 23 then (1, [true, true, false, false]) else bif Nat.beq pc 50 then (1, [true, false, true, false]) else (0, [])
def s_X_send (pc : Nat) : List (Int32 × Nat) × Nat := ([], 0)
noncomputable def eV_X_send : Nat → List AV → Mm → Option Mm := ab_ev []
noncomputable def eI_X_send : Nat → List AV → Mm → Option (Int32 × Mm) := ab_ev [(83, c_X_isEnd), (168, c_End_makePacket)]
noncomputable def b_X_send_0 (f : Nat) (v0 : Nat) (v1 : Int32) (m : Mm) : Option Rs := ab_ex KT none s_X_send eV_X_send eI_X_send i_X_send h_X_send f 0 [some (.inr (.inr (1, some v0))), some (.inl v1), none, none] [] m
noncomputable def b_X_send_23 (f : Nat) (v0 : Nat) (v1 : Int32) (u0 : Int32) (m : Mm) : Option Rs := ab_ex KT none s_X_send eV_X_send eI_X_send i_X_send h_X_send f 23 [some (.inr (.inr (1, some v0))), some (.inl v1), none, none] [.inl u0] m
noncomputable def b_X_send_50 (f : Nat) (v0 : Nat) (v2 : Int32) (u0 : Nat) (u1 : Option Nat) (m : Mm) : Option Rs := ab_ex KT none s_X_send eV_X_send eI_X_send i_X_send h_X_send f 50 [some (.inr (.inr (1, some v0))), none, some (.inl v2), none] [.inr (.inr (4, u1)), .inr (.inr (7, some u0))] m
set_option maxRecDepth 100000 in
set_option maxHeartbeats 4000000 in
theorem b_X_send_0_eq (f : Nat) (v0 : Nat) (v1 : Int32) (m : Mm) : b_X_send_0 (f + 1) v0 v1 m =
    (r_X_isEnd v1 m).bind fun z1 =>
    if z1.1 = 0 then
      some (.inl (some (.inl (-1 : Int32)), z1.2))
    else
      if (16 : Int32) ≤ (z1.2.1 5 v0 0) then
        b_X_send_23 f v0 v1 (0 : Int32) z1.2
      else
        b_X_send_23 f v0 v1 (1 : Int32) z1.2 := rfl
set_option maxRecDepth 100000 in
set_option maxHeartbeats 4000000 in
theorem b_X_send_23_eq (f : Nat) (v0 : Nat) (v1 : Int32) (u0 : Int32) (m : Mm) : b_X_send_23 (f + 1) v0 v1 u0 m =
    (ab_ix v1 2).bind fun i1 =>
    if u0 = 0 then
      b_X_send_50 f v0 u0 ((v0 + 1) + 5 + 30 * i1) (some (v0 + 3)) m
    else
      (ab_ix (m.1 5 v0 0) 16).bind fun i2 =>
      b_X_send_50 f v0 u0 ((v0 + 1) + 5 + 30 * i1) (m.2.2.1 9 (v0 + 2) i2) m := rfl
set_option maxRecDepth 100000 in
set_option maxHeartbeats 4000000 in
theorem b_X_send_50_eq (f : Nat) (v0 : Nat) (v2 : Int32) (u0 : Nat) (u1 : Option Nat) (m : Mm) : b_X_send_50 (f + 1) v0 v2 u0 u1 m =
    (u1.bind fun q1 => r_End_makePacket u0 q1 (m.1 7 v0 0) m).bind fun z2 =>
    if z2.1 = (-1 : Int32) then
      some (.inl (some (.inl z2.1), z2.2))
    else
      if v2 = 0 then
        some (.inl (some (.inl z2.1), z2.2))
      else
        ab_let (ab_uI z2.2 5 v0 0 ((z2.2.1 5 v0 0) + (1 : Int32))) fun m3 =>
        some (.inl (some (.inl z2.1), m3)) := rfl
noncomputable def r_X_send : Nat → Int32 → Mm → Option (Int32 × Mm) := ab_seal fun v0 v1 m => ab_rI (b_X_send_0 50000 v0 v1 m)
theorem r_X_send_eq (v0 : Nat) (v1 : Int32) (m : Mm) : r_X_send v0 v1 m = ab_rI (b_X_send_0 50000 v0 v1 m) := by
  unfold r_X_send
  rw [ab_seal_eq]
noncomputable def c_X_send : List AV → Mm → Option (Int32 × Mm) := fun av m => match av with
  | [.inr (.inr (kv0, ov0)), .inl v1] => if kv0 = 1 then (ov0.bind fun v0 => r_X_send v0 v1 m) else none
  | _ => none
theorem c_X_send_inv {av : List AV} {m : Mm} {r : Int32 × Mm} (h : c_X_send av m = some r) : ∃ (v0 : Nat) (v1 : Int32), av = [.inr (.inr (1, some v0)), .inl v1] ∧ r_X_send v0 v1 m = some r := by
  unfold c_X_send at h
  split at h
  · rename_i kv0 ov0 v1
    by_cases hkv0 : kv0 = 1
    case neg => rw [if_neg hkv0] at h; cases h
    rw [if_pos hkv0] at h
    subst hkv0
    obtain ⟨v0, hev0, h⟩ := Option.bind_eq_some_iff.mp h
    subst hev0
    exact ⟨v0, v1, rfl, h⟩
  · cases h
def cs_X_send : List Nat := [1, 54]
set_option maxRecDepth 100000 in
theorem E_X_send : ∀ (pc : Nat) (q : Ent), i_X_send pc = some q → ab_E KT CL ab_gW "StreamTransport" "send" (some .int) prog_1_method_7_code s_X_send 4 pc q.1 q.2.1 q.2.2.1 q.2.2.2.1 q.2.2.2.2 := fun pc q hq =>
  ab_Eb_ok lc_X lj_X fl_X (fpn_X "send") nw_X na_X nq_X (ab_tab_all (t := t_X_send) (chk := fun pc q => ab_Eb (some .int) prog_1_method_7_code s_X_send 4 LC_X LJ_X FL_X FPn_X NW_X NA_X NQ_X pc q.1 q.2.1 q.2.2.1 q.2.2.2.1 q.2.2.2.2) (by decide +kernel) hq)
set_option maxRecDepth 100000 in
theorem mo_X_send {av : List AV} {m : Mm} {r : Int32 × Mm} (h : c_X_send av m = some r) : ab_mo m r.2 := by
  obtain ⟨v0, v1, -, h⟩ := c_X_send_inv h
  rw [r_X_send_eq] at h
  have hV : ∀ a av m m', eV_X_send a av m = some m' → ab_mo m m' := ab_ev_all (P := fun _ m r => ab_mo m r) [] (fun q hq => by cases hq)
  have hI : ∀ a av m q, eI_X_send a av m = some q → ab_mo m q.2 := ab_ev_all (P := fun _ (m : Mm) (r : Int32 × Mm) => ab_mo m r.2) [(83, c_X_isEnd), (168, c_End_makePacket)] (List.forall_mem_cons.mpr ⟨fun av m r h => ab_kp_mo (kp_X_isEnd h), List.forall_mem_cons.mpr ⟨fun av m r h => mo_End_makePacket h, fun q hq => by cases hq⟩⟩)
  exact ab_morel (ρ := .inl (some (.inl r.1), r.2)) hV hI (ab_rI_inv h)
set_option maxRecDepth 100000 in
theorem cl_X_send (l : Launch) : ∀ (pc : Nat) (q : Ent), i_X_send pc = some q → ab_inv q.1 = true → ab_CR l KT CL none ab_gW "StreamTransport" prog_1_method_7_code 4 6 144 eV_X_send eI_X_send pc q := by
  intro pc q hq hi
  have hm : pc ∈ cs_X_send := ab_tab_cs (t := t_X_send) (by decide +kernel) hq hi
  simp only [cs_X_send, List.mem_cons, List.not_mem_nil, or_false] at hm
  rcases hm with rfl | rfl
  · cases (Option.some.inj hq : ((.invokestatic 113, 83, 1, 1, 0) : Ent) = q)
    exact ab_crS (by decide +kernel) cw_X_isEnd (ab_gW_in 370 (by decide +kernel) rfl) st_X_isEnd (by decide) (fun av m m' h => by cases h) (fun av m r h => cm_X_isEnd l h) KT_nd
  · cases (Option.some.inj hq : ((.invokevirtual 126, 168, 3, 1, 0) : Ent) = q)
    exact ab_crV (C := "StreamTransport$End") (by decide +kernel) cw_End_makePacket (ab_gW_in 397 (by decide +kernel) rfl) is_End_makePacket sl_End_makePacket (by decide) (fun av m m' h => by cases h) (fun av m r h => cm_End_makePacket l h) KT_nd
theorem cw_X_send : ab_cw y_X_send prog_1_method_7_code 4 1 (some .int) := ⟨ab_gW_in 396 (by decide +kernel) rfl, ab_gW_in 61 (by decide +kernel) rfl, by decide +kernel, by decide +kernel, by decide +kernel⟩
theorem is_X_send : Cond.instanceMethod y_X_send ∈ ab_gW := ab_gW_in 394 (by decide +kernel) rfl
theorem sl_X_send : Cond.selects "StreamTransport" y_X_send y_X_send ∈ ab_gW := ab_gW_in 395 (by decide +kernel) rfl
set_option maxRecDepth 100000 in
theorem cm_X_send (l : Launch) {av : List AV} {m : Mm} {r : Int32 × Mm} (h0 : c_X_send av m = some r) : ∃ (k q : Nat) (av' : List AV) (ci : Nat) (fs : List (Nat × Nat × Nat × Nat)) (z : vw_C), av = .inr (.inr (k, some q)) :: av' ∧ av'.length = 1 ∧ k ≠ 0 ∧ KT[k]? = some (.inl (ci, fs)) ∧ CL[ci]? = some z ∧ z.1 = "StreamTransport" ∧ ab_nos av' ∧ ab_Met l KT CL y_X_send (Cond.code y_X_send prog_1_method_7_code 4 (some .int) :: ab_gW) 6 144 none av m (some (.inl r.1)) r.2 := by
  obtain ⟨v0, v1, hav, h⟩ := c_X_send_inv h0
  rw [r_X_send_eq] at h
  have hmo : ab_mo m r.2 := mo_X_send h0
  subst hav
  exact ⟨_, _, _, _, _, _, rfl, rfl, by decide, rfl, rfl, rfl, (by intro v hv q e; subst e; simp at hv), ab_met (by decide +kernel) KT_0 KT_nd KT_k3 E_X_send (cl_X_send l) hmo (Nat.le_of_ble_eq_true rfl) (ab_rI_inv h) (fun v hv => by cases hv; exact ⟨_, rfl⟩)⟩
end
