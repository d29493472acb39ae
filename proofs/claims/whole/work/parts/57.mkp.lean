section
/-! StreamTransport$End.makePacket(LStreamTransport$Row;I)I -/
def y_End_makePacket : MethodName := ⟨"StreamTransport$End", "makePacket", "(LStreamTransport$Row;I)I"⟩
def t_End_makePacket (pc : Nat) : Option Ent :=
  bif Nat.blt pc 73 then
    (bif Nat.blt pc 36 then
      (bif Nat.blt pc 21 then
        (bif Nat.blt pc 10 then
          (bif Nat.blt pc 4 then
            (bif Nat.blt pc 1 then
              (bif Nat.beq pc 0 then some (.aload_n 0, 0, 0, 0, 0) else none)
            else
              bif Nat.beq pc 1 then some (.getfield 144, 0, 6, 0, 0) else none)
          else
            bif Nat.blt pc 7 then
              (bif Nat.beq pc 4 then some (.sipush 512, 0, 0, 0, 512) else none)
            else
              bif Nat.beq pc 7 then some (.if_icmp .ge (17), 24, 0, 0, 0) else none)
        else
          bif Nat.blt pc 14 then
            (bif Nat.blt pc 11 then
              (bif Nat.beq pc 10 then some (.aload_n 0, 0, 0, 0, 0) else none)
            else
              bif Nat.beq pc 11 then some (.invokevirtual 61, 67, 1, 1, 0) else none)
          else
            bif Nat.blt pc 17 then
              (bif Nat.beq pc 14 then some (.ifCond .ne (12), 26, 0, 0, 0) else none)
            else
              bif Nat.blt pc 18 then
                (bif Nat.beq pc 17 then some (.aload_n 0, 0, 0, 0, 0) else none)
              else
                bif Nat.beq pc 18 then some (.getfield 57, 0, 13, 0, 0) else none)
      else
        bif Nat.blt pc 29 then
          (bif Nat.blt pc 25 then
            (bif Nat.blt pc 24 then
              (bif Nat.beq pc 21 then some (.ifCond .ne (5), 26, 0, 0, 0) else none)
            else
              bif Nat.beq pc 24 then some (.iconst (-1), 0, 0, 0, -1) else none)
          else
            bif Nat.blt pc 26 then
              (bif Nat.beq pc 25 then some (.ireturn, 0, 0, 0, 0) else none)
            else
              bif Nat.beq pc 26 then some (.new 25, 82, 0, 0, 0) else none)
        else
          bif Nat.blt pc 33 then
            (bif Nat.blt pc 30 then
              (bif Nat.beq pc 29 then some (.dup, 0, 0, 1, 0) else none)
            else
              bif Nat.beq pc 30 then some (.invokespecial 187, 164, 1, 0, 0) else none)
          else
            bif Nat.blt pc 34 then
              (bif Nat.beq pc 33 then some (.astore_n 3, 3, 0, 0, 0) else none)
            else
              bif Nat.blt pc 35 then
                (bif Nat.beq pc 34 then some (.aload_n 1, 1, 0, 0, 0) else none)
              else
                bif Nat.beq pc 35 then some (.aload_n 0, 0, 0, 0, 0) else none)
    else
      bif Nat.blt pc 55 then
        (bif Nat.blt pc 46 then
          (bif Nat.blt pc 40 then
            (bif Nat.blt pc 39 then
              (bif Nat.beq pc 36 then some (.getfield 38, 0, 0, 0, 0) else none)
            else
              bif Nat.beq pc 39 then some (.aload_n 0, 0, 0, 0, 0) else none)
          else
            bif Nat.blt pc 43 then
              (bif Nat.beq pc 40 then some (.getfield 144, 0, 6, 0, 0) else none)
            else
              bif Nat.beq pc 43 then some (.invokevirtual 188, 9, 3, 0, 0) else none)
        else
          bif Nat.blt pc 50 then
            (bif Nat.blt pc 47 then
              (bif Nat.beq pc 46 then some (.aload_n 0, 0, 0, 0, 0) else none)
            else
              bif Nat.beq pc 47 then some (.invokevirtual 61, 67, 1, 1, 0) else none)
          else
            bif Nat.blt pc 53 then
              (bif Nat.beq pc 50 then some (.ifCond .eq (12), 62, 0, 0, 0) else none)
            else
              bif Nat.blt pc 54 then
                (bif Nat.beq pc 53 then some (.aload_n 0, 0, 0, 0, 0) else none)
              else
                bif Nat.beq pc 54 then some (.aload_n 1, 1, 0, 0, 0) else none)
      else
        bif Nat.blt pc 63 then
          (bif Nat.blt pc 59 then
            (bif Nat.blt pc 56 then
              (bif Nat.beq pc 55 then some (.aload_n 3, 3, 0, 0, 0) else none)
            else
              bif Nat.beq pc 56 then some (.invokevirtual 190, 82, 3, 0, 0) else none)
          else
            bif Nat.blt pc 62 then
              (bif Nat.beq pc 59 then some (.goto 8, 67, 0, 0, 0) else none)
            else
              bif Nat.beq pc 62 then some (.aload_n 0, 0, 0, 0, 0) else none)
        else
          bif Nat.blt pc 67 then
            (bif Nat.blt pc 64 then
              (bif Nat.beq pc 63 then some (.aload_n 1, 1, 0, 0, 0) else none)
            else
              bif Nat.beq pc 64 then some (.invokevirtual 194, 80, 2, 0, 0) else none)
          else
            bif Nat.blt pc 68 then
              (bif Nat.beq pc 67 then some (.aload_n 1, 1, 0, 0, 0) else none)
            else
              bif Nat.blt pc 71 then
                (bif Nat.beq pc 68 then some (.invokevirtual 197, 6, 1, 1, 0) else none)
              else
                bif Nat.beq pc 71 then some (.bipush 37, 0, 0, 0, 37) else none)
  else
    bif Nat.blt pc 105 then
      (bif Nat.blt pc 90 then
        (bif Nat.blt pc 79 then
          (bif Nat.blt pc 77 then
            (bif Nat.blt pc 76 then
              (bif Nat.beq pc 73 then some (.if_icmp .ne (5), 78, 0, 0, 0) else none)
            else
              bif Nat.beq pc 76 then some (.iconst (-1), 0, 0, 0, -1) else none)
          else
            bif Nat.blt pc 78 then
              (bif Nat.beq pc 77 then some (.ireturn, 0, 0, 0, 0) else none)
            else
              bif Nat.beq pc 78 then some (.aload_n 1, 1, 0, 0, 0) else none)
        else
          bif Nat.blt pc 83 then
            (bif Nat.blt pc 80 then
              (bif Nat.beq pc 79 then some (.aload_n 0, 0, 0, 0, 0) else none)
            else
              bif Nat.beq pc 80 then some (.getfield 144, 0, 6, 0, 0) else none)
          else
            bif Nat.blt pc 86 then
              (bif Nat.beq pc 83 then some (.invokevirtual 200, 12, 2, 0, 0) else none)
            else
              bif Nat.blt pc 87 then
                (bif Nat.beq pc 86 then some (.aload_n 0, 0, 0, 0, 0) else none)
              else
                bif Nat.beq pc 87 then some (.getfield 53, 0, 2, 1, 0) else none)
      else
        bif Nat.blt pc 96 then
          (bif Nat.blt pc 92 then
            (bif Nat.blt pc 91 then
              (bif Nat.beq pc 90 then some (.aload_n 3, 3, 0, 0, 0) else none)
            else
              bif Nat.beq pc 91 then some (.iconst 1, 0, 0, 0, 1) else none)
          else
            bif Nat.blt pc 95 then
              (bif Nat.beq pc 92 then some (.invokevirtual 158, 42, 3, 0, 0) else none)
            else
              bif Nat.beq pc 95 then some (.aload_n 0, 0, 0, 0, 0) else none)
        else
          bif Nat.blt pc 100 then
            (bif Nat.blt pc 99 then
              (bif Nat.beq pc 96 then some (.getfield 27, 0, 5, 1, 0) else none)
            else
              bif Nat.beq pc 99 then some (.aload_n 0, 0, 0, 0, 0) else none)
          else
            bif Nat.blt pc 103 then
              (bif Nat.beq pc 100 then some (.getfield 144, 0, 6, 0, 0) else none)
            else
              bif Nat.blt pc 104 then
                (bif Nat.beq pc 103 then some (.aload_n 3, 3, 0, 0, 0) else none)
              else
                bif Nat.beq pc 104 then some (.aastore, 0, 0, 0, 0) else none)
    else
      bif Nat.blt pc 122 then
        (bif Nat.blt pc 111 then
          (bif Nat.blt pc 107 then
            (bif Nat.blt pc 106 then
              (bif Nat.beq pc 105 then some (.aload_n 0, 0, 0, 0, 0) else none)
            else
              bif Nat.beq pc 106 then some (.dup, 0, 0, 1, 0) else none)
          else
            bif Nat.blt pc 110 then
              (bif Nat.beq pc 107 then some (.getfield 144, 0, 6, 0, 0) else none)
            else
              bif Nat.beq pc 110 then some (.iconst 1, 0, 0, 0, 1) else none)
        else
          bif Nat.blt pc 115 then
            (bif Nat.blt pc 112 then
              (bif Nat.beq pc 111 then some (.iadd, 0, 0, 0, 0) else none)
            else
              bif Nat.beq pc 112 then some (.putfield 144, 0, 6, 0, 0) else none)
          else
            bif Nat.blt pc 116 then
              (bif Nat.beq pc 115 then some (.aload_n 3, 3, 0, 0, 0) else none)
            else
              bif Nat.blt pc 119 then
                (bif Nat.beq pc 116 then some (.getfield 172, 8, 1, 0, 0) else none)
              else
                bif Nat.beq pc 119 then some (.ifCond .eq (13), 132, 0, 0, 0) else none)
      else
        bif Nat.blt pc 128 then
          (bif Nat.blt pc 124 then
            (bif Nat.blt pc 123 then
              (bif Nat.beq pc 122 then some (.aload_n 0, 0, 0, 0, 0) else none)
            else
              bif Nat.beq pc 123 then some (.iload_n 2, 2, 0, 0, 0) else none)
          else
            bif Nat.blt pc 127 then
              (bif Nat.beq pc 124 then some (.putfield 178, 0, 10, 0, 0) else none)
            else
              bif Nat.beq pc 127 then some (.aload_n 0, 0, 0, 0, 0) else none)
        else
          bif Nat.blt pc 132 then
            (bif Nat.blt pc 129 then
              (bif Nat.beq pc 128 then some (.iconst 0, 0, 0, 0, 0) else none)
            else
              bif Nat.beq pc 129 then some (.putfield 181, 0, 12, 0, 0) else none)
          else
            bif Nat.blt pc 133 then
              (bif Nat.beq pc 132 then some (.aload_n 1, 1, 0, 0, 0) else none)
            else
              bif Nat.blt pc 136 then
                (bif Nat.beq pc 133 then some (.getfield 203, 7, 1, 0, 0) else none)
              else
                bif Nat.beq pc 136 then some (.ireturn, 0, 0, 0, 0) else none
def i_End_makePacket : Nat → Option Ent := ab_tab 137 t_End_makePacket
def h_End_makePacket (pc : Nat) : Nat × List Bool := bif Nat.beq pc 34 then (2, []) else bif Nat.beq pc 26 then (1, [true, true, true, false]) else bif Nat.beq pc 67 then (1, [true, true, true, true]) else bif Nat.beq pc 132 then (1, [false, true, false, false]) else (0, [])
def s_End_makePacket (pc : Nat) : List (Int32 × Nat) × Nat := ([], 0)
noncomputable def eV_End_makePacket : Nat → List AV → Mm → Option Mm := ab_ev [(164, c_Snt_init), (9, c_Row_begin), (82, c_End_putFrames), (80, c_End_putClose), (12, c_Row_seal), (42, c_Otf_mark)]
noncomputable def eI_End_makePacket : Nat → List AV → Mm → Option (Int32 × Mm) := ab_ev [(67, c_End_isOpen), (6, c_Row_roomLeft)]
noncomputable def b_End_makePacket_0 (f : Nat) (v0 : Nat) (v1 : Nat) (v2 : Int32) (m : Mm) : Option Rs := ab_ex KT none s_End_makePacket eV_End_makePacket eI_End_makePacket i_End_makePacket h_End_makePacket f 0 [some (.inr (.inr (7, some v0))), some (.inr (.inr (4, some v1))), some (.inl v2), none] [] m
noncomputable def b_End_makePacket_26 (f : Nat) (v0 : Nat) (v1 : Nat) (v2 : Int32) (m : Mm) : Option Rs := ab_ex KT none s_End_makePacket eV_End_makePacket eI_End_makePacket i_End_makePacket h_End_makePacket f 26 [some (.inr (.inr (7, some v0))), some (.inr (.inr (4, some v1))), some (.inl v2), none] [] m
noncomputable def b_End_makePacket_34 (f : Nat) (v0 : Nat) (v1 : Nat) (v2 : Int32) (v3 : Nat) (m : Mm) : Option Rs := ab_ex KT none s_End_makePacket eV_End_makePacket eI_End_makePacket i_End_makePacket h_End_makePacket f 34 [some (.inr (.inr (7, some v0))), some (.inr (.inr (4, some v1))), some (.inl v2), some (.inr (.inr (22, some v3)))] [] m
noncomputable def b_End_makePacket_67 (f : Nat) (v0 : Nat) (v1 : Nat) (v2 : Int32) (v3 : Nat) (m : Mm) : Option Rs := ab_ex KT none s_End_makePacket eV_End_makePacket eI_End_makePacket i_End_makePacket h_End_makePacket f 67 [some (.inr (.inr (7, some v0))), some (.inr (.inr (4, some v1))), some (.inl v2), some (.inr (.inr (22, some v3)))] [] m
noncomputable def b_End_makePacket_132 (f : Nat) (v1 : Nat) (m : Mm) : Option Rs := ab_ex KT none s_End_makePacket eV_End_makePacket eI_End_makePacket i_End_makePacket h_End_makePacket f 132 [none, some (.inr (.inr (4, some v1))), none, none] [] m
set_option maxRecDepth 100000 in
set_option maxHeartbeats 4000000 in
theorem b_End_makePacket_0_eq (f : Nat) (v0 : Nat) (v1 : Nat) (v2 : Int32) (m : Mm) : b_End_makePacket_0 (f + 1) v0 v1 v2 m =
    if (512 : Int32) ≤ (m.1 21 v0 0) then
      some (.inl (some (.inl (-1 : Int32)), m))
    else
      (r_End_isOpen v0 m).bind fun z1 =>
      if z1.1 = 0 then
        if (z1.2.1 28 v0 0) = 0 then
          some (.inl (some (.inl (-1 : Int32)), z1.2))
        else
          b_End_makePacket_26 f v0 v1 v2 z1.2
      else
        b_End_makePacket_26 f v0 v1 v2 z1.2 := rfl
set_option maxRecDepth 100000 in
set_option maxHeartbeats 4000000 in
theorem b_End_makePacket_26_eq (f : Nat) (v0 : Nat) (v1 : Nat) (v2 : Int32) (m : Mm) : b_End_makePacket_26 (f + 1) v0 v1 v2 m =
    ab_let m.2.2.2.1.length fun n2 =>
    ab_let (ab_ap m 82) fun m1 =>
    (r_Snt_init n2 m1).bind fun m3 =>
    some (.inr (34, [some (.inr (.inr (7, some v0))), some (.inr (.inr (4, some v1))), some (.inl v2), some (.inr (.inr (82, some n2)))], [], m3)) := rfl
set_option maxRecDepth 100000 in
set_option maxHeartbeats 4000000 in
theorem b_End_makePacket_34_eq (f : Nat) (v0 : Nat) (v1 : Nat) (v2 : Int32) (v3 : Nat) (m : Mm) : b_End_makePacket_34 (f + 1) v0 v1 v2 v3 m =
    (r_Row_begin v1 (m.1 15 v0 0) (m.1 21 v0 0) m).bind fun m1 =>
    (r_End_isOpen v0 m1).bind fun z2 =>
    if z2.1 = 0 then
      (r_End_putClose v0 v1 z2.2).bind fun m3 =>
      b_End_makePacket_67 f v0 v1 v2 v3 m3
    else
      (r_End_putFrames v0 v1 v3 z2.2).bind fun m4 =>
      b_End_makePacket_67 f v0 v1 v2 v3 m4 := rfl
set_option maxRecDepth 100000 in
set_option maxHeartbeats 4000000 in
theorem b_End_makePacket_67_eq (f : Nat) (v0 : Nat) (v1 : Nat) (v2 : Int32) (v3 : Nat) (m : Mm) : b_End_makePacket_67 (f + 1) v0 v1 v2 v3 m =
    (r_Row_roomLeft v1 m).bind fun z1 =>
    if z1.1 = (37 : Int32) then
      some (.inl (some (.inl (-1 : Int32)), z1.2))
    else
      (r_Row_seal v1 (z1.2.1 21 v0 0) z1.2).bind fun m2 =>
      (r_Otf_mark (v0 + 16) v3 (1 : Int32) m2).bind fun m3 =>
      (ab_ix (m3.1 21 v0 0) 512).bind fun i4 =>
      ab_let (ab_uR m3 39 (v0 + 5) i4 (some v3)) fun m5 =>
      ab_let (ab_uI m5 21 v0 0 ((m5.1 21 v0 0) + (1 : Int32))) fun m6 =>
      if (m6.1 69 v3 0) = 0 then
        b_End_makePacket_132 f v1 m6
      else
        ab_let (ab_uI m6 25 v0 0 v2) fun m7 =>
        (ab_bo (0 : Int32)).bind fun y9 =>
        ab_let (ab_uI m7 27 v0 0 y9) fun m8 =>
        b_End_makePacket_132 f v1 m8 := rfl
set_option maxRecDepth 100000 in
set_option maxHeartbeats 4000000 in
theorem b_End_makePacket_132_eq (f : Nat) (v1 : Nat) (m : Mm) : b_End_makePacket_132 (f + 1) v1 m =
    some (.inl (some (.inl (m.1 11 v1 0)), m)) := rfl
noncomputable def r_End_makePacket : Nat → Nat → Int32 → Mm → Option (Int32 × Mm) := ab_seal fun v0 v1 v2 m => match b_End_makePacket_0 50000 v0 v1 v2 m with
  | some (.inl (some (.inl v), m')) => some (v, m')
  | some (.inr (_, _, _, m1)) => ab_rI (b_End_makePacket_34 50000 v0 v1 v2 m.2.2.2.1.length (ab_ks m1 (m1.2.2.2.1.set m.2.2.2.1.length 22)))
  | _ => none
theorem r_End_makePacket_eq (v0 v1 : Nat) (v2 : Int32) (m : Mm) : r_End_makePacket v0 v1 v2 m = match b_End_makePacket_0 50000 v0 v1 v2 m with
  | some (.inl (some (.inl v), m')) => some (v, m')
  | some (.inr (_, _, _, m1)) => ab_rI (b_End_makePacket_34 50000 v0 v1 v2 m.2.2.2.1.length (ab_ks m1 (m1.2.2.2.1.set m.2.2.2.1.length 22)))
  | _ => none := by
  unfold r_End_makePacket
  rw [ab_seal_eq]
noncomputable def c_End_makePacket : List AV → Mm → Option (Int32 × Mm) := fun av m => match av with
  | [.inr (.inr (kv0, ov0)), .inr (.inr (kv1, ov1)), .inl v2] => if kv0 = 7 then (if kv1 = 4 then (ov0.bind fun v0 => ov1.bind fun v1 => r_End_makePacket v0 v1 v2 m) else none) else none
  | _ => none
theorem c_End_makePacket_inv {av : List AV} {m : Mm} {r : Int32 × Mm} (h : c_End_makePacket av m = some r) : ∃ (v0 : Nat) (v1 : Nat) (v2 : Int32), av = [.inr (.inr (7, some v0)), .inr (.inr (4, some v1)), .inl v2] ∧ r_End_makePacket v0 v1 v2 m = some r := by
  unfold c_End_makePacket at h
  split at h
  · rename_i kv0 ov0 kv1 ov1 v2
    by_cases hkv0 : kv0 = 7
    case neg => rw [if_neg hkv0] at h; cases h
    rw [if_pos hkv0] at h
    subst hkv0
    by_cases hkv1 : kv1 = 4
    case neg => rw [if_neg hkv1] at h; cases h
    rw [if_pos hkv1] at h
    subst hkv1
    obtain ⟨v0, hev0, h⟩ := Option.bind_eq_some_iff.mp h
    obtain ⟨v1, hev1, h⟩ := Option.bind_eq_some_iff.mp h
    subst hev0
    subst hev1
    exact ⟨v0, v1, v2, rfl, h⟩
  · cases h
def cs_End_makePacket : List Nat := [11, 30, 43, 47, 56, 64, 68, 83, 92]
set_option maxRecDepth 100000 in
theorem E_End_makePacket : ∀ (pc : Nat) (q : Ent), i_End_makePacket pc = some q → ab_E KT CL ab_gW "StreamTransport$End" "makePacket" (some .int) prog_2_method_15_code s_End_makePacket 4 pc q.1 q.2.1 q.2.2.1 q.2.2.2.1 q.2.2.2.2 := fun pc q hq =>
  ab_Eb_ok lc_End lj_End fl_End (fpn_End "makePacket") nw_End na_End nq_End (ab_tab_all (t := t_End_makePacket) (chk := fun pc q => ab_Eb (some .int) prog_2_method_15_code s_End_makePacket 4 LC_End LJ_End FL_End FPn_End NW_End NA_End NQ_End pc q.1 q.2.1 q.2.2.1 q.2.2.2.1 q.2.2.2.2) (by decide +kernel) hq)
theorem mkp_stop {v0 v1 : Nat} {v2 : Int32} {m : Mm} {c : Cf} (h : b_End_makePacket_0 50000 v0 v1 v2 m = some (.inr c)) : c = (34, [some (.inr (.inr (7, some v0))), some (.inr (.inr (4, some v1))), some (.inl v2), some (.inr (.inr (82, some m.2.2.2.1.length)))], [], snt_m m.2.2.2.1.length (ab_ap m 82)) := by
  have h26 : ∀ f, b_End_makePacket_26 (f + 1) v0 v1 v2 m = some (.inr c) → c = (34, [some (.inr (.inr (7, some v0))), some (.inr (.inr (4, some v1))), some (.inl v2), some (.inr (.inr (82, some m.2.2.2.1.length)))], [], snt_m m.2.2.2.1.length (ab_ap m 82)) := by
    intro f h
    rw [b_End_makePacket_26_eq] at h
    simp only [ab_let] at h
    rw [r_Snt_init_spec _ _ (by show (m.2.2.2.1 ++ [82]).length = _; simp)] at h
    have h : some (Sum.inr (34, [some (.inr (.inr (7, some v0))), some (.inr (.inr (4, some v1))), some (.inl v2), some (.inr (.inr (82, some m.2.2.2.1.length)))], [], snt_m m.2.2.2.1.length (ab_ap m 82))) = some (Sum.inr c) := h
    exact (Sum.inr.inj (Option.some.inj h)).symm
  rw [b_End_makePacket_0_eq, r_End_isOpen_spec] at h
  by_cases h1 : (512 : Int32) ≤ m.1 21 v0 0
  · rw [if_pos h1] at h
    cases h
  · rw [if_neg h1] at h
    have h : (if (if m.1 22 v0 0 = -1 then (1 : Int32) else 0) = 0 then (if m.1 28 v0 0 = 0 then some (Sum.inl (some (Sum.inl (-1 : Int32)), m)) else b_End_makePacket_26 49999 v0 v1 v2 m) else b_End_makePacket_26 49999 v0 v1 v2 m) = some (.inr c) := h
    by_cases h2 : (if m.1 22 v0 0 = -1 then (1 : Int32) else 0) = 0
    · rw [if_pos h2] at h
      by_cases h3 : m.1 28 v0 0 = 0
      · rw [if_pos h3] at h
        cases h
      · rw [if_neg h3] at h
        exact h26 49998 h
    · rw [if_neg h2] at h
      exact h26 49998 h
theorem snt_ks (n : Nat) (m : Mm) : (snt_m n m).2.2.2.1 = m.2.2.2.1 ++ [23] ++ [24] ++ [25] ++ [26] ++ [27] := rfl
theorem snt_rk {cl : List vw_C} {m : Mm} : let m1 := snt_m m.2.2.2.1.length (ab_ap m 82)
    (∀ ad ac, ab_w KT ad ac (ab_ks m1 (m1.2.2.2.1.set m.2.2.2.1.length 22)) = ab_w KT ad ac m1) ∧ (∀ ac U, ab_K KT cl ac m1.2.2.2.1 U → ab_K KT cl ac (m1.2.2.2.1.set m.2.2.2.1.length 22) U) ∧ (ab_ok KT m1 → ab_ok KT (ab_ks m1 (m1.2.2.2.1.set m.2.2.2.1.length 22))) ∧ (m1.2.2.2.1.set m.2.2.2.1.length 22).length = m1.2.2.2.1.length ∧ ((m1.2.2.2.1.set m.2.2.2.1.length 22).map (ab_len KT)).sum = (m1.2.2.2.1.map (ab_len KT)).sum := by
  intro m1
  have hks : m1.2.2.2.1 = m.2.2.2.1 ++ [82, 23, 24, 25, 26, 27] := by
    show m.2.2.2.1 ++ [82] ++ [23] ++ [24] ++ [25] ++ [26] ++ [27] = _
    simp
  have hR : ∀ k, k < 5 → m1.2.2.1 (71 + k) m.2.2.2.1.length 0 = some (m.2.2.2.1.length + (1 + k)) := by
    intro k hk
    match k, hk with
    | 0, _ => simp [m1, snt_m, ab_fl, ab_uR, ab_ap, ab_uI]
    | 1, _ => simp [m1, snt_m, ab_fl, ab_uR, ab_ap, ab_uI]
    | 2, _ => simp [m1, snt_m, ab_fl, ab_uR, ab_ap, ab_uI]
    | 3, _ => simp [m1, snt_m, ab_fl, ab_uR, ab_ap, ab_uI]
    | 4, _ => simp [m1, snt_m, ab_fl, ab_uR, ab_ap, ab_uI]
  have hat : ∀ k, m1.2.2.2.1[m.2.2.2.1.length + k]? = [82, 23, 24, 25, 26, 27][k]? := by
    intro k
    rw [hks, List.getElem?_append_right (by omega)]
    congr 1
    omega
  refine ab_rk1 (kc := 82) (kf := 22) (ci := 8) (fsC := [(0, 68, 0, 0), (1, 69, 0, 0), (0, 70, 0, 0), (2, 71, 23, 0), (2, 72, 24, 0), (2, 73, 25, 0), (2, 74, 26, 0), (2, 75, 27, 0)]) (fsF := [(0, 68, 0, 0), (1, 69, 0, 0), (0, 70, 0, 0), (3, 71, 23, 1), (3, 72, 24, 2), (3, 73, 25, 3), (3, 74, 26, 4), (3, 75, 27, 5)]) (by have := hat 0; simpa using this) rfl rfl ?_ (by decide +kernel) ?_ ?_ rfl
  · intro ad
    have r0 := hR 0 (by omega)
    have r1 := hR 1 (by omega)
    have r2 := hR 2 (by omega)
    have r3 := hR 3 (by omega)
    have r4 := hR 4 (by omega)
    simp only [Nat.reduceAdd] at r0 r1 r2 r3 r4
    simp only [List.map_cons, List.map_nil, ab_fv, r0, r1, r2, r3, r4]
    rfl
  · intro f r k' d hf
    have e1 : m1.2.2.2.1[m.2.2.2.1.length + 1]? = some 23 := hat 1
    have e2 : m1.2.2.2.1[m.2.2.2.1.length + 2]? = some 24 := hat 2
    have e3 : m1.2.2.2.1[m.2.2.2.1.length + 3]? = some 25 := hat 3
    have e4 : m1.2.2.2.1[m.2.2.2.1.length + 4]? = some 26 := hat 4
    have e5 : m1.2.2.2.1[m.2.2.2.1.length + 5]? = some 27 := hat 5
    match f, hf with
    | 0, hf => simp at hf
    | 1, hf => simp at hf
    | 2, hf => simp at hf
    | 3, hf => simp at hf; obtain ⟨-, rfl, rfl⟩ := hf; exact ⟨by decide, by decide, e1⟩
    | 4, hf => simp at hf; obtain ⟨-, rfl, rfl⟩ := hf; exact ⟨by decide, by decide, e2⟩
    | 5, hf => simp at hf; obtain ⟨-, rfl, rfl⟩ := hf; exact ⟨by decide, by decide, e3⟩
    | 6, hf => simp at hf; obtain ⟨-, rfl, rfl⟩ := hf; exact ⟨by decide, by decide, e4⟩
    | 7, hf => simp at hf; obtain ⟨-, rfl, rfl⟩ := hf; exact ⟨by decide, by decide, e5⟩
    | f + 8, hf => simp at hf
  · intro f r k' d hf
    match f, hf with
    | 0, hf => simp at hf
    | 1, hf => simp at hf
    | 2, hf => simp at hf
    | 3, hf => simp at hf
    | 4, hf => simp at hf
    | 5, hf => simp at hf
    | 6, hf => simp at hf
    | 7, hf => simp at hf
    | f + 8, hf => simp at hf
theorem mkp_rel : (∀ a av m m', eV_End_makePacket a av m = some m' → ab_mo m m') ∧ ∀ a av m q, eI_End_makePacket a av m = some q → ab_mo m q.2 := by
  constructor
  · exact ab_ev_all (P := fun _ m r => ab_mo m r) [(164, c_Snt_init), (9, c_Row_begin), (82, c_End_putFrames), (80, c_End_putClose), (12, c_Row_seal), (42, c_Otf_mark)] (List.forall_mem_cons.mpr ⟨fun av m r h => mo_Snt_init h, List.forall_mem_cons.mpr ⟨fun av m r h => ab_kp_mo (kp_Row_begin h), List.forall_mem_cons.mpr ⟨fun av m r h => ab_kp_mo (kp_End_putFrames h), List.forall_mem_cons.mpr ⟨fun av m r h => ab_kp_mo (kp_End_putClose h), List.forall_mem_cons.mpr ⟨fun av m r h => ab_kp_mo (kp_Row_seal h), List.forall_mem_cons.mpr ⟨fun av m r h => ab_kp_mo (kp_Otf_mark h), fun q hq => by cases hq⟩⟩⟩⟩⟩⟩)
  · exact ab_ev_all (P := fun _ (m : Mm) (r : Int32 × Mm) => ab_mo m r.2) [(67, c_End_isOpen), (6, c_Row_roomLeft)] (List.forall_mem_cons.mpr ⟨fun av m r h => ab_kp_mo (kp_End_isOpen h), List.forall_mem_cons.mpr ⟨fun av m r h => ab_kp_mo (kp_Row_roomLeft h), fun q hq => by cases hq⟩⟩)
theorem mo_End_makePacket {av : List AV} {m : Mm} {r : Int32 × Mm} (h : c_End_makePacket av m = some r) : ab_mo m r.2 := by
  obtain ⟨v0, v1, v2, -, h⟩ := c_End_makePacket_inv h
  rw [r_End_makePacket_eq] at h
  split at h
  · rename_i v m' hb
    have e := Option.some.inj h
    subst e
    exact ab_morel (ρ := .inl (some (.inl v), m')) mkp_rel.1 mkp_rel.2 hb
  · rename_i x1 x2 x3 m1 hb
    have hc := mkp_stop hb
    simp only [Prod.mk.injEq] at hc
    obtain ⟨-, -, -, rfl⟩ := hc
    have h1 : ab_mo m (snt_m m.2.2.2.1.length (ab_ap m 82)) := ab_morel (ρ := .inr (x1, x2, x3, snt_m m.2.2.2.1.length (ab_ap m 82))) mkp_rel.1 mkp_rel.2 hb
    obtain ⟨-, -, -, g1, g2⟩ := snt_rk (cl := CL) (m := m)
    have h2 := ab_morel (ρ := .inl (some (.inl r.1), r.2)) mkp_rel.1 mkp_rel.2 (ab_rI_inv h)
    have h2 : ab_mo (ab_ks (snt_m m.2.2.2.1.length (ab_ap m 82)) ((snt_m m.2.2.2.1.length (ab_ap m 82)).2.2.2.1.set m.2.2.2.1.length 22)) r.2 := h2
    have e1 : ab_gc (ab_ks (snt_m m.2.2.2.1.length (ab_ap m 82)) ((snt_m m.2.2.2.1.length (ab_ap m 82)).2.2.2.1.set m.2.2.2.1.length 22)) = ab_gc (snt_m m.2.2.2.1.length (ab_ap m 82)) := by
      unfold ab_gc ab_ks
      dsimp only
      rw [g1]
    have e2 : ab_gs KT (ab_ks (snt_m m.2.2.2.1.length (ab_ap m 82)) ((snt_m m.2.2.2.1.length (ab_ap m 82)).2.2.2.1.set m.2.2.2.1.length 22)) = ab_gs KT (snt_m m.2.2.2.1.length (ab_ap m 82)) := by
      unfold ab_gs ab_ks
      dsimp only
      rw [g2]
    refine ⟨Nat.le_trans h1.1 ?_, Nat.le_trans h1.2 ?_⟩
    · rw [← e1]; exact h2.1
    · rw [← e2]; exact h2.2
  · cases h

set_option maxRecDepth 100000 in
theorem cl_End_makePacket (l : Launch) : ∀ (pc : Nat) (q : Ent), i_End_makePacket pc = some q → ab_inv q.1 = true → ab_CR l KT CL none ab_gW "StreamTransport$End" prog_2_method_15_code 4 5 121 eV_End_makePacket eI_End_makePacket pc q := by
  intro pc q hq hi
  have hm : pc ∈ cs_End_makePacket := ab_tab_cs (t := t_End_makePacket) (by decide +kernel) hq hi
  simp only [cs_End_makePacket, List.mem_cons, List.not_mem_nil, or_false] at hm
  rcases hm with rfl | rfl | rfl | rfl | rfl | rfl | rfl | rfl | rfl
  · cases (Option.some.inj hq : ((.invokevirtual 61, 67, 1, 1, 0) : Ent) = q)
    exact ab_crV (C := "StreamTransport$End") (by decide +kernel) cw_End_isOpen (ab_gW_in 401 (by decide +kernel) rfl) is_End_isOpen sl_End_isOpen (by decide) (fun av m m' h => by cases h) (fun av m r h => cm_End_isOpen l h) KT_nd
  · cases (Option.some.inj hq : ((.invokespecial 187, 164, 1, 0, 0) : Ent) = q)
    exact ab_crI (by decide +kernel) cw_Snt_init (ab_gW_in 403 (by decide +kernel) rfl) is_Snt_init rfl rfl (by decide) (fun av m m' h => cm_Snt_init l h) (fun av m => rfl) KT_nd
  · cases (Option.some.inj hq : ((.invokevirtual 188, 9, 3, 0, 0) : Ent) = q)
    exact ab_crV (C := "StreamTransport$Row") (by decide +kernel) cw_Row_begin (ab_gW_in 445 (by decide +kernel) rfl) is_Row_begin sl_Row_begin (by decide) (fun av m m' h => cm_Row_begin l h) (fun av m r h => by cases h) KT_nd
  · cases (Option.some.inj hq : ((.invokevirtual 61, 67, 1, 1, 0) : Ent) = q)
    exact ab_crV (C := "StreamTransport$End") (by decide +kernel) cw_End_isOpen (ab_gW_in 401 (by decide +kernel) rfl) is_End_isOpen sl_End_isOpen (by decide) (fun av m m' h => by cases h) (fun av m r h => cm_End_isOpen l h) KT_nd
  · cases (Option.some.inj hq : ((.invokevirtual 190, 82, 3, 0, 0) : Ent) = q)
    exact ab_crV (C := "StreamTransport$End") (by decide +kernel) cw_End_putFrames (ab_gW_in 453 (by decide +kernel) rfl) is_End_putFrames sl_End_putFrames (by decide) (fun av m m' h => cm_End_putFrames l h) (fun av m r h => by cases h) KT_nd
  · cases (Option.some.inj hq : ((.invokevirtual 194, 80, 2, 0, 0) : Ent) = q)
    exact ab_crV (C := "StreamTransport$End") (by decide +kernel) cw_End_putClose (ab_gW_in 574 (by decide +kernel) rfl) is_End_putClose sl_End_putClose (by decide) (fun av m m' h => cm_End_putClose l h) (fun av m r h => by cases h) KT_nd
  · cases (Option.some.inj hq : ((.invokevirtual 197, 6, 1, 1, 0) : Ent) = q)
    exact ab_crV (C := "StreamTransport$Row") (by decide +kernel) cw_Row_roomLeft (ab_gW_in 578 (by decide +kernel) rfl) is_Row_roomLeft sl_Row_roomLeft (by decide) (fun av m m' h => by cases h) (fun av m r h => cm_Row_roomLeft l h) KT_nd
  · cases (Option.some.inj hq : ((.invokevirtual 200, 12, 2, 0, 0) : Ent) = q)
    exact ab_crV (C := "StreamTransport$Row") (by decide +kernel) cw_Row_seal (ab_gW_in 579 (by decide +kernel) rfl) is_Row_seal sl_Row_seal (by decide) (fun av m m' h => cm_Row_seal l h) (fun av m r h => by cases h) KT_nd
  · cases (Option.some.inj hq : ((.invokevirtual 158, 42, 3, 0, 0) : Ent) = q)
    exact ab_crV (C := "StreamTransport$Outflow") (by decide +kernel) cw_Otf_mark (ab_gW_in 590 (by decide +kernel) rfl) is_Otf_mark sl_Otf_mark (by decide) (fun av m m' h => cm_Otf_mark l h) (fun av m r h => by cases h) KT_nd
theorem cw_End_makePacket : ab_cw y_End_makePacket prog_2_method_15_code 4 2 (some .int) := ⟨ab_gW_in 400 (by decide +kernel) rfl, ab_gW_in 63 (by decide +kernel) rfl, by decide +kernel, by decide +kernel, by decide +kernel⟩
theorem is_End_makePacket : Cond.instanceMethod y_End_makePacket ∈ ab_gW := ab_gW_in 398 (by decide +kernel) rfl
theorem sl_End_makePacket : Cond.selects "StreamTransport$End" y_End_makePacket y_End_makePacket ∈ ab_gW := ab_gW_in 399 (by decide +kernel) rfl
theorem cm_End_makePacket (l : Launch) {av : List AV} {m : Mm} {r : Int32 × Mm} (h0 : c_End_makePacket av m = some r) : ∃ (k q : Nat) (av' : List AV) (ci : Nat) (fs : List (Nat × Nat × Nat × Nat)) (z : vw_C), av = .inr (.inr (k, some q)) :: av' ∧ av'.length = 2 ∧ k ≠ 0 ∧ KT[k]? = some (.inl (ci, fs)) ∧ CL[ci]? = some z ∧ z.1 = "StreamTransport$End" ∧ ab_nos av' ∧ ab_Met l KT CL y_End_makePacket (Cond.code y_End_makePacket prog_2_method_15_code 4 (some .int) :: ab_gW) 5 121 none av m (some (.inl r.1)) r.2 := by
  obtain ⟨v0, v1, v2, hav, h⟩ := c_End_makePacket_inv h0
  have hmo : ab_mo m r.2 := mo_End_makePacket h0
  subst hav
  refine ⟨_, _, _, _, _, _, rfl, rfl, by decide, rfl, rfl, rfl, (by intro v hv q e; subst e; simp at hv), ?_⟩
  rw [r_End_makePacket_eq] at h
  split at h
  · rename_i v m' hb
    have e := Option.some.inj h
    subst e
    exact ab_met (by decide +kernel) KT_0 KT_nd KT_k3 E_End_makePacket (cl_End_makePacket l) hmo (Nat.le_of_ble_eq_true rfl) hb (fun v hv => by cases hv; exact ⟨_, rfl⟩)
  · rename_i x1 x2 x3 m1 hb
    have hc := mkp_stop hb
    rw [hc] at hb
    simp only [Prod.mk.injEq] at hc
    obtain ⟨-, -, -, rfl⟩ := hc
    obtain ⟨g1, g2, g3, g4, g5⟩ := snt_rk (cl := CL) (m := m)
    have hat : (snt_m m.2.2.2.1.length (ab_ap m 82)).2.2.2.1 = m.2.2.2.1 ++ [82, 23, 24, 25, 26, 27] := by
      show m.2.2.2.1 ++ [82] ++ [23] ++ [24] ++ [25] ++ [26] ++ [27] = _
      simp
    have hup : ∀ (i k : Nat), m.2.2.2.1[i]? = some k → ((snt_m m.2.2.2.1.length (ab_ap m 82)).2.2.2.1.set m.2.2.2.1.length 22)[i]? = some k := by
      intro i k hi
      have hlt := (List.getElem?_eq_some_iff.mp hi).1
      rw [List.getElem?_set_ne (by omega), hat, List.getElem?_append_left hlt]
      exact hi
    have hdn : ∀ (i k : Nat), k ≠ 82 → (snt_m m.2.2.2.1.length (ab_ap m 82)).2.2.2.1[i]? = some k → ((snt_m m.2.2.2.1.length (ab_ap m 82)).2.2.2.1.set m.2.2.2.1.length 22)[i]? = some k := by
      intro i k hk hi
      by_cases h1 : i = m.2.2.2.1.length
      · subst h1
        rw [hat, List.getElem?_append_right (Nat.le_refl _)] at hi
        simp at hi
        exact absurd hi.symm hk
      · rw [List.getElem?_set_ne (Ne.symm h1)]
        exact hi
    refine ab_met2 (L1' := [some (.inr (.inr (7, some v0))), some (.inr (.inr (4, some v1))), some (.inl v2), some (.inr (.inr (22, some m.2.2.2.1.length)))]) (S1' := []) (by decide +kernel) KT_0 KT_nd KT_k3 E_End_makePacket (cl_End_makePacket l) hmo (Nat.le_of_ble_eq_true rfl) hb (fun ad ac _ => g1 ad ac) g2 g3 g4 g5 (fun i k h1 _ => hup i k h1) ?_ (fun b => ⟨fun _ => rfl, fun _ v hv => by cases hv⟩) (ab_rI_inv h)
    intro b
    refine ⟨rfl, fun i v' hv' => ?_⟩
    match i, hv' with
    | 0, hv' =>
      simp at hv'
      subst hv'
      refine ⟨_, rfl, fun ad => rfl, fun hv => ab_vvo fun q hq => ?_⟩
      cases hq
      exact ⟨by decide, hdn _ _ (by decide) (ab_ref hv (by decide))⟩
    | 1, hv' =>
      simp at hv'
      subst hv'
      refine ⟨_, rfl, fun ad => rfl, fun hv => ab_vvo fun q hq => ?_⟩
      cases hq
      exact ⟨by decide, hdn _ _ (by decide) (ab_ref hv (by decide))⟩
    | 2, hv' =>
      simp at hv'
      subst hv'
      exact ⟨_, rfl, fun ad => rfl, fun _ => trivial⟩
    | 3, hv' =>
      simp at hv'
      subst hv'
      refine ⟨_, rfl, fun ad => rfl, fun hv => ab_vvo fun q hq => ?_⟩
      cases hq
      refine ⟨by decide, ?_⟩
      rw [List.getElem?_set_self (by rw [hat]; simp)]
    | i + 4, hv' => simp at hv'
  · cases h

end
