section
/-! StreamTransportModel.acks(II)V -/
def y_M_acks : MethodName := ⟨"StreamTransportModel", "acks", "(II)V"⟩
def t_M_acks (pc : Nat) : Option Ent :=
  bif Nat.blt pc 75 then
    (bif Nat.blt pc 42 then
      (bif Nat.blt pc 19 then
        (bif Nat.blt pc 8 then
          (bif Nat.blt pc 5 then
            (bif Nat.blt pc 1 then
              (bif Nat.beq pc 0 then some (.aload_n 0, 0, 0, 0, 0) else none)
            else
              bif Nat.blt pc 4 then
                (bif Nat.beq pc 1 then some (.getfield 98, 10, 33, 1, 0) else none)
              else
                bif Nat.beq pc 4 then some (.iload_n 2, 2, 0, 0, 0) else none)
          else
            bif Nat.blt pc 6 then
              (bif Nat.beq pc 5 then some (.iconst 1, 0, 0, 0, 1) else none)
            else
              bif Nat.blt pc 7 then
                (bif Nat.beq pc 6 then some (.iastore, 0, 0, 0, 0) else none)
              else
                bif Nat.beq pc 7 then some (.aload_n 0, 0, 0, 0, 0) else none)
        else
          bif Nat.blt pc 13 then
            (bif Nat.blt pc 11 then
              (bif Nat.beq pc 8 then some (.getfield 71, 10, 24, 1, 0) else none)
            else
              bif Nat.blt pc 12 then
                (bif Nat.beq pc 11 then some (.iload_n 1, 1, 0, 0, 0) else none)
              else
                bif Nat.beq pc 12 then some (.iload_n 2, 2, 0, 0, 0) else none)
          else
            bif Nat.blt pc 17 then
              (bif Nat.blt pc 16 then
                (bif Nat.beq pc 13 then some (.sipush 560, 0, 0, 0, 560) else none)
              else
                bif Nat.beq pc 16 then some (.iload_n 1, 1, 0, 0, 0) else none)
            else
              bif Nat.blt pc 18 then
                (bif Nat.beq pc 17 then some (.imul, 0, 0, 0, 0) else none)
              else
                bif Nat.beq pc 18 then some (.isub, 0, 0, 0, 0) else none)
      else
        bif Nat.blt pc 29 then
          (bif Nat.blt pc 24 then
            (bif Nat.blt pc 20 then
              (bif Nat.beq pc 19 then some (.aload_n 0, 0, 0, 0, 0) else none)
            else
              bif Nat.blt pc 23 then
                (bif Nat.beq pc 20 then some (.getfield 71, 10, 24, 1, 0) else none)
              else
                bif Nat.beq pc 23 then some (.iload_n 1, 1, 0, 0, 0) else none)
          else
            bif Nat.blt pc 25 then
              (bif Nat.beq pc 24 then some (.iaload, 0, 0, 0, 0) else none)
            else
              bif Nat.blt pc 28 then
                (bif Nat.beq pc 25 then some (.if_icmp .le (13), 38, 0, 0, 0) else none)
              else
                bif Nat.beq pc 28 then some (.iload_n 2, 2, 0, 0, 0) else none)
        else
          bif Nat.blt pc 34 then
            (bif Nat.blt pc 32 then
              (bif Nat.beq pc 29 then some (.sipush 560, 0, 0, 0, 560) else none)
            else
              bif Nat.blt pc 33 then
                (bif Nat.beq pc 32 then some (.iload_n 1, 1, 0, 0, 0) else none)
              else
                bif Nat.beq pc 33 then some (.imul, 0, 0, 0, 0) else none)
          else
            bif Nat.blt pc 38 then
              (bif Nat.blt pc 35 then
                (bif Nat.beq pc 34 then some (.isub, 0, 0, 0, 0) else none)
              else
                bif Nat.beq pc 35 then some (.goto 9, 44, 0, 0, 0) else none)
            else
              bif Nat.blt pc 39 then
                (bif Nat.beq pc 38 then some (.aload_n 0, 0, 0, 0, 0) else none)
              else
                bif Nat.beq pc 39 then some (.getfield 71, 10, 24, 1, 0) else none)
    else
      bif Nat.blt pc 59 then
        (bif Nat.blt pc 50 then
          (bif Nat.blt pc 45 then
            (bif Nat.blt pc 43 then
              (bif Nat.beq pc 42 then some (.iload_n 1, 1, 0, 0, 0) else none)
            else
              bif Nat.blt pc 44 then
                (bif Nat.beq pc 43 then some (.iaload, 0, 0, 0, 0) else none)
              else
                bif Nat.beq pc 44 then some (.iastore, 0, 0, 0, 0) else none)
          else
            bif Nat.blt pc 46 then
              (bif Nat.beq pc 45 then some (.aload_n 0, 0, 0, 0, 0) else none)
            else
              bif Nat.blt pc 49 then
                (bif Nat.beq pc 46 then some (.getfield 80, 10, 27, 1, 0) else none)
              else
                bif Nat.beq pc 49 then some (.iload_n 1, 1, 0, 0, 0) else none)
        else
          bif Nat.blt pc 53 then
            (bif Nat.blt pc 51 then
              (bif Nat.beq pc 50 then some (.iconst 0, 0, 0, 0, 0) else none)
            else
              bif Nat.blt pc 52 then
                (bif Nat.beq pc 51 then some (.iastore, 0, 0, 0, 0) else none)
              else
                bif Nat.beq pc 52 then some (.iconst 0, 0, 0, 0, 0) else none)
          else
            bif Nat.blt pc 55 then
              (bif Nat.blt pc 54 then
                (bif Nat.beq pc 53 then some (.istore_n 3, 3, 0, 0, 0) else none)
              else
                bif Nat.beq pc 54 then some (.iload_n 3, 3, 0, 0, 0) else none)
            else
              bif Nat.blt pc 56 then
                (bif Nat.beq pc 55 then some (.iconst 4, 0, 0, 0, 4) else none)
              else
                bif Nat.beq pc 56 then some (.if_icmp .ge (108), 164, 0, 0, 0) else none)
      else
        bif Nat.blt pc 66 then
          (bif Nat.blt pc 62 then
            (bif Nat.blt pc 60 then
              (bif Nat.beq pc 59 then some (.iconst 4, 0, 0, 0, 4) else none)
            else
              bif Nat.blt pc 61 then
                (bif Nat.beq pc 60 then some (.iload_n 1, 1, 0, 0, 0) else none)
              else
                bif Nat.beq pc 61 then some (.imul, 0, 0, 0, 0) else none)
          else
            bif Nat.blt pc 63 then
              (bif Nat.beq pc 62 then some (.iload_n 3, 3, 0, 0, 0) else none)
            else
              bif Nat.blt pc 64 then
                (bif Nat.beq pc 63 then some (.iadd, 0, 0, 0, 0) else none)
              else
                bif Nat.beq pc 64 then some (.istore 4, 4, 0, 0, 0) else none)
        else
          bif Nat.blt pc 71 then
            (bif Nat.blt pc 67 then
              (bif Nat.beq pc 66 then some (.aload_n 0, 0, 0, 0, 0) else none)
            else
              bif Nat.blt pc 70 then
                (bif Nat.beq pc 67 then some (.getfield 107, 10, 36, 1, 0) else none)
              else
                bif Nat.beq pc 70 then some (.iconst 4, 0, 0, 0, 4) else none)
          else
            bif Nat.blt pc 73 then
              (bif Nat.blt pc 72 then
                (bif Nat.beq pc 71 then some (.iload_n 2, 2, 0, 0, 0) else none)
              else
                bif Nat.beq pc 72 then some (.imul, 0, 0, 0, 0) else none)
            else
              bif Nat.blt pc 74 then
                (bif Nat.beq pc 73 then some (.iload_n 3, 3, 0, 0, 0) else none)
              else
                bif Nat.beq pc 74 then some (.iadd, 0, 0, 0, 0) else none)
  else
    bif Nat.blt pc 120 then
      (bif Nat.blt pc 98 then
        (bif Nat.blt pc 85 then
          (bif Nat.blt pc 79 then
            (bif Nat.blt pc 76 then
              (bif Nat.beq pc 75 then some (.iaload, 0, 0, 0, 0) else none)
            else
              bif Nat.blt pc 78 then
                (bif Nat.beq pc 76 then some (.istore 5, 5, 0, 0, 0) else none)
              else
                bif Nat.beq pc 78 then some (.iconst 0, 0, 0, 0, 0) else none)
          else
            bif Nat.blt pc 81 then
              (bif Nat.beq pc 79 then some (.istore 6, 6, 0, 0, 0) else none)
            else
              bif Nat.blt pc 83 then
                (bif Nat.beq pc 81 then some (.iload 6, 6, 0, 0, 0) else none)
              else
                bif Nat.beq pc 83 then some (.iload 5, 5, 0, 0, 0) else none)
        else
          bif Nat.blt pc 90 then
            (bif Nat.blt pc 87 then
              (bif Nat.beq pc 85 then some (.bipush 7, 0, 0, 0, 7) else none)
            else
              bif Nat.blt pc 88 then
                (bif Nat.beq pc 87 then some (.ishr, 0, 0, 0, 0) else none)
              else
                bif Nat.beq pc 88 then some (.bipush 15, 0, 0, 0, 15) else none)
          else
            bif Nat.blt pc 94 then
              (bif Nat.blt pc 91 then
                (bif Nat.beq pc 90 then some (.iand, 0, 0, 0, 0) else none)
              else
                bif Nat.beq pc 91 then some (.if_icmp .ge (29), 120, 0, 0, 0) else none)
            else
              bif Nat.blt pc 95 then
                (bif Nat.beq pc 94 then some (.aload_n 0, 0, 0, 0, 0) else none)
              else
                bif Nat.beq pc 95 then some (.getfield 13, 10, 5, 1, 0) else none)
      else
        bif Nat.blt pc 108 then
          (bif Nat.blt pc 103 then
            (bif Nat.blt pc 100 then
              (bif Nat.beq pc 98 then some (.bipush 64, 0, 0, 0, 64) else none)
            else
              bif Nat.blt pc 102 then
                (bif Nat.beq pc 100 then some (.iload 4, 4, 0, 0, 0) else none)
              else
                bif Nat.beq pc 102 then some (.imul, 0, 0, 0, 0) else none)
          else
            bif Nat.blt pc 105 then
              (bif Nat.beq pc 103 then some (.iload 5, 5, 0, 0, 0) else none)
            else
              bif Nat.blt pc 107 then
                (bif Nat.beq pc 105 then some (.bipush 127, 0, 0, 0, 127) else none)
              else
                bif Nat.beq pc 107 then some (.iand, 0, 0, 0, 0) else none)
        else
          bif Nat.blt pc 112 then
            (bif Nat.blt pc 109 then
              (bif Nat.beq pc 108 then some (.iadd, 0, 0, 0, 0) else none)
            else
              bif Nat.blt pc 111 then
                (bif Nat.beq pc 109 then some (.iload 6, 6, 0, 0, 0) else none)
              else
                bif Nat.beq pc 111 then some (.iadd, 0, 0, 0, 0) else none)
          else
            bif Nat.blt pc 114 then
              (bif Nat.blt pc 113 then
                (bif Nat.beq pc 112 then some (.iconst 3, 0, 0, 0, 3) else none)
              else
                bif Nat.beq pc 113 then some (.iastore, 0, 0, 0, 0) else none)
            else
              bif Nat.blt pc 117 then
                (bif Nat.beq pc 114 then some (.iinc 6 1, 6, 0, 0, 1) else none)
              else
                bif Nat.beq pc 117 then some (.goto (-36), 81, 0, 0, 0) else none)
    else
      bif Nat.blt pc 141 then
        (bif Nat.blt pc 128 then
          (bif Nat.blt pc 125 then
            (bif Nat.blt pc 122 then
              (bif Nat.beq pc 120 then some (.iload 5, 5, 0, 0, 0) else none)
            else
              bif Nat.blt pc 124 then
                (bif Nat.beq pc 122 then some (.bipush 11, 0, 0, 0, 11) else none)
              else
                bif Nat.beq pc 124 then some (.ishr, 0, 0, 0, 0) else none)
          else
            bif Nat.blt pc 126 then
              (bif Nat.beq pc 125 then some (.iconst 1, 0, 0, 0, 1) else none)
            else
              bif Nat.blt pc 127 then
                (bif Nat.beq pc 126 then some (.iand, 0, 0, 0, 0) else none)
              else
                bif Nat.beq pc 127 then some (.iconst 1, 0, 0, 0, 1) else none)
        else
          bif Nat.blt pc 135 then
            (bif Nat.blt pc 131 then
              (bif Nat.beq pc 128 then some (.if_icmp .ne (11), 139, 0, 0, 0) else none)
            else
              bif Nat.blt pc 132 then
                (bif Nat.beq pc 131 then some (.aload_n 0, 0, 0, 0, 0) else none)
              else
                bif Nat.beq pc 132 then some (.getfield 22, 10, 8, 1, 0) else none)
          else
            bif Nat.blt pc 138 then
              (bif Nat.blt pc 137 then
                (bif Nat.beq pc 135 then some (.iload 4, 4, 0, 0, 0) else none)
              else
                bif Nat.beq pc 137 then some (.iconst 3, 0, 0, 0, 3) else none)
            else
              bif Nat.blt pc 139 then
                (bif Nat.beq pc 138 then some (.iastore, 0, 0, 0, 0) else none)
              else
                bif Nat.beq pc 139 then some (.iload 5, 5, 0, 0, 0) else none)
      else
        bif Nat.blt pc 151 then
          (bif Nat.blt pc 145 then
            (bif Nat.blt pc 143 then
              (bif Nat.beq pc 141 then some (.bipush 12, 0, 0, 0, 12) else none)
            else
              bif Nat.blt pc 144 then
                (bif Nat.beq pc 143 then some (.ishr, 0, 0, 0, 0) else none)
              else
                bif Nat.beq pc 144 then some (.iconst 1, 0, 0, 0, 1) else none)
          else
            bif Nat.blt pc 147 then
              (bif Nat.blt pc 146 then
                (bif Nat.beq pc 145 then some (.iand, 0, 0, 0, 0) else none)
              else
                bif Nat.beq pc 146 then some (.iconst 1, 0, 0, 0, 1) else none)
            else
              bif Nat.blt pc 150 then
                (bif Nat.beq pc 147 then some (.if_icmp .ne (11), 158, 0, 0, 0) else none)
              else
                bif Nat.beq pc 150 then some (.aload_n 0, 0, 0, 0, 0) else none)
        else
          bif Nat.blt pc 157 then
            (bif Nat.blt pc 154 then
              (bif Nat.beq pc 151 then some (.getfield 25, 10, 9, 1, 0) else none)
            else
              bif Nat.blt pc 156 then
                (bif Nat.beq pc 154 then some (.iload 4, 4, 0, 0, 0) else none)
              else
                bif Nat.beq pc 156 then some (.iconst 3, 0, 0, 0, 3) else none)
          else
            bif Nat.blt pc 161 then
              (bif Nat.blt pc 158 then
                (bif Nat.beq pc 157 then some (.iastore, 0, 0, 0, 0) else none)
              else
                bif Nat.beq pc 158 then some (.iinc 3 1, 3, 0, 0, 1) else none)
            else
              bif Nat.blt pc 164 then
                (bif Nat.beq pc 161 then some (.goto (-107), 54, 0, 0, 0) else none)
              else
                bif Nat.beq pc 164 then some (.return_, 0, 0, 0, 0) else none
def i_M_acks : Nat → Option Ent := ab_tab 165 t_M_acks
def h_M_acks (pc : Nat) : Nat × List Bool := bif Nat.beq pc 44 then (1, [true, true, true, false, false, false, false]) else bif Nat.beq pc 54 then (1, [true, true, true, true, false, false, false]) else bif Nat.beq pc 81 then (1, [true, true, true, true, true, true, true]) else bif Nat.beq pc 139 then (1, [true, true, true, true, true, true, false]) else bif Nat.beq pc 158 then (1, [true, true, true, true, false, false, false]) else (0, [])
def s_M_acks (pc : Nat) : List (Int32 × Nat) × Nat := ([], 0)
noncomputable def eV_M_acks : Nat → List AV → Mm → Option Mm := ab_ev []
noncomputable def eI_M_acks : Nat → List AV → Mm → Option (Int32 × Mm) := ab_ev []
noncomputable def b_M_acks_0 (f : Nat) (v0 : Nat) (v1 : Int32) (v2 : Int32) (m : Mm) : Option Rs := ab_ex KT none s_M_acks eV_M_acks eI_M_acks i_M_acks h_M_acks f 0 [some (.inr (.inr (28, some v0))), some (.inl v1), some (.inl v2), none, none, none, none] [] m
noncomputable def b_M_acks_44 (f : Nat) (v0 : Nat) (v1 : Int32) (v2 : Int32) (u0 : Nat) (u1 : Int32) (u2 : Int32) (m : Mm) : Option Rs := ab_ex KT none s_M_acks eV_M_acks eI_M_acks i_M_acks h_M_acks f 44 [some (.inr (.inr (28, some v0))), some (.inl v1), some (.inl v2), none, none, none, none] [.inl u2, .inl u1, .inr (.inr (49, some u0))] m
noncomputable def b_M_acks_54 (f : Nat) (v0 : Nat) (v1 : Int32) (v2 : Int32) (v3 : Int32) (m : Mm) : Option Rs := ab_ex KT none s_M_acks eV_M_acks eI_M_acks i_M_acks h_M_acks f 54 [some (.inr (.inr (28, some v0))), some (.inl v1), some (.inl v2), some (.inl v3), none, none, none] [] m
noncomputable def b_M_acks_81 (f : Nat) (v0 : Nat) (v1 : Int32) (v2 : Int32) (v3 : Int32) (v4 : Int32) (v5 : Int32) (v6 : Int32) (m : Mm) : Option Rs := ab_ex KT none s_M_acks eV_M_acks eI_M_acks i_M_acks h_M_acks f 81 [some (.inr (.inr (28, some v0))), some (.inl v1), some (.inl v2), some (.inl v3), some (.inl v4), some (.inl v5), some (.inl v6)] [] m
noncomputable def b_M_acks_139 (f : Nat) (v0 : Nat) (v1 : Int32) (v2 : Int32) (v3 : Int32) (v4 : Int32) (v5 : Int32) (m : Mm) : Option Rs := ab_ex KT none s_M_acks eV_M_acks eI_M_acks i_M_acks h_M_acks f 139 [some (.inr (.inr (28, some v0))), some (.inl v1), some (.inl v2), some (.inl v3), some (.inl v4), some (.inl v5), none] [] m
noncomputable def b_M_acks_158 (f : Nat) (v0 : Nat) (v1 : Int32) (v2 : Int32) (v3 : Int32) (m : Mm) : Option Rs := ab_ex KT none s_M_acks eV_M_acks eI_M_acks i_M_acks h_M_acks f 158 [some (.inr (.inr (28, some v0))), some (.inl v1), some (.inl v2), some (.inl v3), none, none, none] [] m
set_option maxRecDepth 100000 in
set_option maxHeartbeats 4000000 in
theorem b_M_acks_0_eq (f : Nat) (v0 : Nat) (v1 : Int32) (v2 : Int32) (m : Mm) : b_M_acks_0 (f + 1) v0 v1 v2 m =
    (ab_ix v2 1120).bind fun i1 =>
    ab_let (ab_uI m 162 (v0 + 30) i1 (1 : Int32)) fun m2 =>
    (ab_ix v1 2).bind fun i3 =>
    if (v2 - ((560 : Int32) * v1)) ≤ (m2.1 153 (v0 + 21) i3) then
      (ab_ix v1 2).bind fun i4 =>
      b_M_acks_44 f v0 v1 v2 (v0 + 21) v1 (m2.1 153 (v0 + 21) i4) m2
    else
      b_M_acks_44 f v0 v1 v2 (v0 + 21) v1 (v2 - ((560 : Int32) * v1)) m2 := rfl
set_option maxRecDepth 100000 in
set_option maxHeartbeats 4000000 in
theorem b_M_acks_44_eq (f : Nat) (v0 : Nat) (v1 : Int32) (v2 : Int32) (u0 : Nat) (u1 : Int32) (u2 : Int32) (m : Mm) : b_M_acks_44 (f + 1) v0 v1 v2 u0 u1 u2 m =
    (ab_ix u1 2).bind fun i1 =>
    ab_let (ab_uI m 153 u0 i1 u2) fun m2 =>
    (ab_ix v1 2).bind fun i3 =>
    ab_let (ab_uI m2 156 (v0 + 24) i3 (0 : Int32)) fun m4 =>
    b_M_acks_54 f v0 v1 v2 (0 : Int32) m4 := rfl
set_option maxRecDepth 100000 in
set_option maxHeartbeats 4000000 in
theorem b_M_acks_54_eq (f : Nat) (v0 : Nat) (v1 : Int32) (v2 : Int32) (v3 : Int32) (m : Mm) : b_M_acks_54 (f + 1) v0 v1 v2 v3 m =
    if (4 : Int32) ≤ v3 then
      some (.inl (none, m))
    else
      ab_let ((((4 : Int32) * v1) + v3)) fun x1 =>
      (ab_ix (((4 : Int32) * v2) + v3) 4480).bind fun i2 =>
      ab_let ((m.1 165 (v0 + 33) i2)) fun x3 =>
      b_M_acks_81 f v0 v1 v2 v3 x1 x3 (0 : Int32) m := rfl
set_option maxRecDepth 100000 in
set_option maxHeartbeats 4000000 in
theorem b_M_acks_81_eq (f : Nat) (v0 : Nat) (v1 : Int32) (v2 : Int32) (v3 : Int32) (v4 : Int32) (v5 : Int32) (v6 : Int32) (m : Mm) : b_M_acks_81 (f + 1) v0 v1 v2 v3 v4 v5 v6 m =
    if ((v5 >>> ((7 : Int32) &&& 31)) &&& (15 : Int32)) ≤ v6 then
      if ((v5 >>> ((11 : Int32) &&& 31)) &&& (1 : Int32)) = (1 : Int32) then
        (ab_ix v4 8).bind fun i1 =>
        ab_let (ab_uI m 137 (v0 + 5) i1 (3 : Int32)) fun m2 =>
        b_M_acks_139 f v0 v1 v2 v3 v4 v5 m2
      else
        b_M_acks_139 f v0 v1 v2 v3 v4 v5 m
    else
      (ab_ix ((((64 : Int32) * v4) + (v5 &&& (127 : Int32))) + v6) 512).bind fun i3 =>
      ab_let (ab_uI m 134 (v0 + 2) i3 (3 : Int32)) fun m4 =>
      ab_let (v6 + (1 : Int32)) fun x5 =>
      b_M_acks_81 f v0 v1 v2 v3 v4 v5 x5 m4 := rfl
set_option maxRecDepth 100000 in
set_option maxHeartbeats 4000000 in
theorem b_M_acks_139_eq (f : Nat) (v0 : Nat) (v1 : Int32) (v2 : Int32) (v3 : Int32) (v4 : Int32) (v5 : Int32) (m : Mm) : b_M_acks_139 (f + 1) v0 v1 v2 v3 v4 v5 m =
    if ((v5 >>> ((12 : Int32) &&& 31)) &&& (1 : Int32)) = (1 : Int32) then
      (ab_ix v4 8).bind fun i1 =>
      ab_let (ab_uI m 138 (v0 + 6) i1 (3 : Int32)) fun m2 =>
      b_M_acks_158 f v0 v1 v2 v3 m2
    else
      b_M_acks_158 f v0 v1 v2 v3 m := rfl
set_option maxRecDepth 100000 in
set_option maxHeartbeats 4000000 in
theorem b_M_acks_158_eq (f : Nat) (v0 : Nat) (v1 : Int32) (v2 : Int32) (v3 : Int32) (m : Mm) : b_M_acks_158 (f + 1) v0 v1 v2 v3 m =
    ab_let (v3 + (1 : Int32)) fun x1 =>
    b_M_acks_54 f v0 v1 v2 x1 m := rfl
noncomputable def r_M_acks : Nat → Int32 → Int32 → Mm → Option Mm := ab_seal fun v0 v1 v2 m => ab_rV (b_M_acks_0 50000 v0 v1 v2 m)
theorem r_M_acks_eq (v0 : Nat) (v1 : Int32) (v2 : Int32) (m : Mm) : r_M_acks v0 v1 v2 m = ab_rV (b_M_acks_0 50000 v0 v1 v2 m) := by
  unfold r_M_acks
  rw [ab_seal_eq]
noncomputable def c_M_acks : List AV → Mm → Option Mm := fun av m => match av with
  | [.inr (.inr (kv0, ov0)), .inl v1, .inl v2] => if kv0 = 28 then (ov0.bind fun v0 => r_M_acks v0 v1 v2 m) else none
  | _ => none
theorem c_M_acks_inv {av : List AV} {m : Mm} {r : Mm} (h : c_M_acks av m = some r) : ∃ (v0 : Nat) (v1 : Int32) (v2 : Int32), av = [.inr (.inr (28, some v0)), .inl v1, .inl v2] ∧ r_M_acks v0 v1 v2 m = some r := by
  unfold c_M_acks at h
  split at h
  · rename_i kv0 ov0 v1 v2
    by_cases hkv0 : kv0 = 28
    case neg => rw [if_neg hkv0] at h; cases h
    rw [if_pos hkv0] at h
    subst hkv0
    obtain ⟨v0, hev0, h⟩ := Option.bind_eq_some_iff.mp h
    subst hev0
    exact ⟨v0, v1, v2, rfl, h⟩
  · cases h
def cs_M_acks : List Nat := []
set_option maxRecDepth 100000 in
theorem E_M_acks : ∀ (pc : Nat) (q : Ent), i_M_acks pc = some q → ab_E KT CL ab_gW "StreamTransportModel" "acks" none prog_12_method_27_code s_M_acks 7 pc q.1 q.2.1 q.2.2.1 q.2.2.2.1 q.2.2.2.2 := fun pc q hq =>
  ab_Eb_ok lc_M lj_M fl_M (fpn_M "acks") nw_M na_M nq_M (ab_tab_all (t := t_M_acks) (chk := fun pc q => ab_Eb none prog_12_method_27_code s_M_acks 7 LC_M LJ_M FL_M FPn_M NW_M NA_M NQ_M pc q.1 q.2.1 q.2.2.1 q.2.2.2.1 q.2.2.2.2) (by decide +kernel) hq)
set_option maxRecDepth 100000 in
theorem kp_M_acks {av : List AV} {m : Mm} {r : Mm} (h : c_M_acks av m = some r) : ab_kp m r := by
  obtain ⟨v0, v1, v2, -, h⟩ := c_M_acks_inv h
  rw [r_M_acks_eq] at h
  have hV : ∀ a av m m', eV_M_acks a av m = some m' → ab_kp m m' := ab_ev_all (P := fun _ m r => ab_kp m r) [] (fun q hq => by cases hq)
  have hI : ∀ a av m q, eI_M_acks a av m = some q → ab_kp m q.2 := ab_ev_all (P := fun _ (m : Mm) (r : Int32 × Mm) => ab_kp m r.2) [] (fun q hq => by cases hq)
  exact ab_kprel (ρ := .inl (none, r)) (ab_tab_isn (t := t_M_acks) (by decide +kernel)) hV hI (ab_rV_inv h)
set_option maxRecDepth 100000 in
theorem cl_M_acks (l : Launch) : ∀ (pc : Nat) (q : Ent), i_M_acks pc = some q → ab_inv q.1 = true → ab_CR l KT CL none ab_gW "StreamTransportModel" prog_12_method_27_code 7 0 0 eV_M_acks eI_M_acks pc q := by
  intro pc q hq hi
  have hm : pc ∈ cs_M_acks := ab_tab_cs (t := t_M_acks) (by decide +kernel) hq hi
  cases hm
theorem cw_M_acks : ab_cw y_M_acks prog_12_method_27_code 7 2 none := ⟨ab_gW_in 1281 (by decide +kernel) rfl, ab_gW_in 71 (by decide +kernel) rfl, by decide +kernel, by decide +kernel, by decide +kernel⟩
theorem is_M_acks : Cond.instanceMethod y_M_acks ∈ ab_gW := ab_gW_in 1280 (by decide +kernel) rfl
theorem sl_M_acks : Cond.selects "StreamTransportModel" y_M_acks y_M_acks ∈ ab_gW := ab_gW_in 53 (by decide +kernel) rfl
set_option maxRecDepth 100000 in
theorem cm_M_acks (l : Launch) {av : List AV} {m : Mm} {r : Mm} (h0 : c_M_acks av m = some r) : ∃ (k q : Nat) (av' : List AV) (ci : Nat) (fs : List (Nat × Nat × Nat × Nat)) (z : vw_C), av = .inr (.inr (k, some q)) :: av' ∧ av'.length = 2 ∧ k ≠ 0 ∧ KT[k]? = some (.inl (ci, fs)) ∧ CL[ci]? = some z ∧ z.1 = "StreamTransportModel" ∧ ab_nos av' ∧ ab_Met l KT CL y_M_acks (Cond.code y_M_acks prog_12_method_27_code 7 none :: ab_gW) 0 0 none av m none r := by
  obtain ⟨v0, v1, v2, hav, h⟩ := c_M_acks_inv h0
  rw [r_M_acks_eq] at h
  have hmo : ab_mo m r := ab_kp_mo (kp_M_acks h0)
  subst hav
  exact ⟨_, _, _, _, _, _, rfl, rfl, by decide, rfl, rfl, rfl, (by intro v hv q e; subst e; simp at hv), ab_met (by decide +kernel) KT_0 KT_nd KT_k3 E_M_acks (cl_M_acks l) hmo (Nat.le_of_ble_eq_true rfl) (ab_rV_inv h) (fun v hv => by cases hv)⟩
/-! StreamTransportModel.loses(II)V -/
def y_M_loses : MethodName := ⟨"StreamTransportModel", "loses", "(II)V"⟩
def t_M_loses (pc : Nat) : Option Ent :=
  bif Nat.blt pc 99 then
    (bif Nat.blt pc 47 then
      (bif Nat.blt pc 26 then
        (bif Nat.blt pc 12 then
          (bif Nat.blt pc 6 then
            (bif Nat.blt pc 4 then
              (bif Nat.blt pc 1 then
                (bif Nat.beq pc 0 then some (.aload_n 0, 0, 0, 0, 0) else none)
              else
                bif Nat.beq pc 1 then some (.getfield 98, 10, 33, 1, 0) else none)
            else
              bif Nat.blt pc 5 then
                (bif Nat.beq pc 4 then some (.iload_n 2, 2, 0, 0, 0) else none)
              else
                bif Nat.beq pc 5 then some (.iconst 2, 0, 0, 0, 2) else none)
          else
            bif Nat.blt pc 8 then
              (bif Nat.blt pc 7 then
                (bif Nat.beq pc 6 then some (.iastore, 0, 0, 0, 0) else none)
              else
                bif Nat.beq pc 7 then some (.aload_n 0, 0, 0, 0, 0) else none)
            else
              bif Nat.blt pc 11 then
                (bif Nat.beq pc 8 then some (.getfield 104, 10, 35, 1, 0) else none)
              else
                bif Nat.beq pc 11 then some (.iload_n 2, 2, 0, 0, 0) else none)
        else
          bif Nat.blt pc 18 then
            (bif Nat.blt pc 14 then
              (bif Nat.blt pc 13 then
                (bif Nat.beq pc 12 then some (.iaload, 0, 0, 0, 0) else none)
              else
                bif Nat.beq pc 13 then some (.aload_n 0, 0, 0, 0, 0) else none)
            else
              bif Nat.blt pc 17 then
                (bif Nat.beq pc 14 then some (.getfield 62, 10, 21, 1, 0) else none)
              else
                bif Nat.beq pc 17 then some (.iload_n 1, 1, 0, 0, 0) else none)
          else
            bif Nat.blt pc 22 then
              (bif Nat.blt pc 19 then
                (bif Nat.beq pc 18 then some (.iaload, 0, 0, 0, 0) else none)
              else
                bif Nat.beq pc 19 then some (.if_icmp .ne (10), 29, 0, 0, 0) else none)
            else
              bif Nat.blt pc 23 then
                (bif Nat.beq pc 22 then some (.aload_n 0, 0, 0, 0, 0) else none)
              else
                bif Nat.beq pc 23 then some (.getfield 83, 10, 28, 1, 0) else none)
      else
        bif Nat.blt pc 36 then
          (bif Nat.blt pc 30 then
            (bif Nat.blt pc 28 then
              (bif Nat.blt pc 27 then
                (bif Nat.beq pc 26 then some (.iload_n 1, 1, 0, 0, 0) else none)
              else
                bif Nat.beq pc 27 then some (.iconst 1, 0, 0, 0, 1) else none)
            else
              bif Nat.blt pc 29 then
                (bif Nat.beq pc 28 then some (.bastore, 0, 0, 0, 0) else none)
              else
                bif Nat.beq pc 29 then some (.iconst 0, 0, 0, 0, 0) else none)
          else
            bif Nat.blt pc 32 then
              (bif Nat.blt pc 31 then
                (bif Nat.beq pc 30 then some (.istore_n 3, 3, 0, 0, 0) else none)
              else
                bif Nat.beq pc 31 then some (.iload_n 3, 3, 0, 0, 0) else none)
            else
              bif Nat.blt pc 33 then
                (bif Nat.beq pc 32 then some (.iconst 4, 0, 0, 0, 4) else none)
              else
                bif Nat.beq pc 33 then some (.if_icmp .ge (180), 213, 0, 0, 0) else none)
        else
          bif Nat.blt pc 40 then
            (bif Nat.blt pc 38 then
              (bif Nat.blt pc 37 then
                (bif Nat.beq pc 36 then some (.iconst 4, 0, 0, 0, 4) else none)
              else
                bif Nat.beq pc 37 then some (.iload_n 1, 1, 0, 0, 0) else none)
            else
              bif Nat.blt pc 39 then
                (bif Nat.beq pc 38 then some (.imul, 0, 0, 0, 0) else none)
              else
                bif Nat.beq pc 39 then some (.iload_n 3, 3, 0, 0, 0) else none)
          else
            bif Nat.blt pc 43 then
              (bif Nat.blt pc 41 then
                (bif Nat.beq pc 40 then some (.iadd, 0, 0, 0, 0) else none)
              else
                bif Nat.beq pc 41 then some (.istore 4, 4, 0, 0, 0) else none)
            else
              bif Nat.blt pc 44 then
                (bif Nat.beq pc 43 then some (.aload_n 0, 0, 0, 0, 0) else none)
              else
                bif Nat.beq pc 44 then some (.getfield 107, 10, 36, 1, 0) else none)
    else
      bif Nat.blt pc 70 then
        (bif Nat.blt pc 57 then
          (bif Nat.blt pc 51 then
            (bif Nat.blt pc 49 then
              (bif Nat.blt pc 48 then
                (bif Nat.beq pc 47 then some (.iconst 4, 0, 0, 0, 4) else none)
              else
                bif Nat.beq pc 48 then some (.iload_n 2, 2, 0, 0, 0) else none)
            else
              bif Nat.blt pc 50 then
                (bif Nat.beq pc 49 then some (.imul, 0, 0, 0, 0) else none)
              else
                bif Nat.beq pc 50 then some (.iload_n 3, 3, 0, 0, 0) else none)
          else
            bif Nat.blt pc 53 then
              (bif Nat.blt pc 52 then
                (bif Nat.beq pc 51 then some (.iadd, 0, 0, 0, 0) else none)
              else
                bif Nat.beq pc 52 then some (.iaload, 0, 0, 0, 0) else none)
            else
              bif Nat.blt pc 55 then
                (bif Nat.beq pc 53 then some (.istore 5, 5, 0, 0, 0) else none)
              else
                bif Nat.beq pc 55 then some (.bipush 64, 0, 0, 0, 64) else none)
        else
          bif Nat.blt pc 64 then
            (bif Nat.blt pc 60 then
              (bif Nat.blt pc 59 then
                (bif Nat.beq pc 57 then some (.iload 4, 4, 0, 0, 0) else none)
              else
                bif Nat.beq pc 59 then some (.imul, 0, 0, 0, 0) else none)
            else
              bif Nat.blt pc 62 then
                (bif Nat.beq pc 60 then some (.iload 5, 5, 0, 0, 0) else none)
              else
                bif Nat.beq pc 62 then some (.bipush 127, 0, 0, 0, 127) else none)
          else
            bif Nat.blt pc 66 then
              (bif Nat.blt pc 65 then
                (bif Nat.beq pc 64 then some (.iand, 0, 0, 0, 0) else none)
              else
                bif Nat.beq pc 65 then some (.iadd, 0, 0, 0, 0) else none)
            else
              bif Nat.blt pc 68 then
                (bif Nat.beq pc 66 then some (.istore 6, 6, 0, 0, 0) else none)
              else
                bif Nat.beq pc 68 then some (.iload 6, 6, 0, 0, 0) else none)
      else
        bif Nat.blt pc 83 then
          (bif Nat.blt pc 77 then
            (bif Nat.blt pc 74 then
              (bif Nat.blt pc 72 then
                (bif Nat.beq pc 70 then some (.bipush 64, 0, 0, 0, 64) else none)
              else
                bif Nat.beq pc 72 then some (.iload 4, 4, 0, 0, 0) else none)
            else
              bif Nat.blt pc 75 then
                (bif Nat.beq pc 74 then some (.imul, 0, 0, 0, 0) else none)
              else
                bif Nat.beq pc 75 then some (.iload 5, 5, 0, 0, 0) else none)
          else
            bif Nat.blt pc 80 then
              (bif Nat.blt pc 79 then
                (bif Nat.beq pc 77 then some (.bipush 127, 0, 0, 0, 127) else none)
              else
                bif Nat.beq pc 79 then some (.iand, 0, 0, 0, 0) else none)
            else
              bif Nat.blt pc 81 then
                (bif Nat.beq pc 80 then some (.iadd, 0, 0, 0, 0) else none)
              else
                bif Nat.beq pc 81 then some (.iload 5, 5, 0, 0, 0) else none)
        else
          bif Nat.blt pc 89 then
            (bif Nat.blt pc 86 then
              (bif Nat.blt pc 85 then
                (bif Nat.beq pc 83 then some (.bipush 7, 0, 0, 0, 7) else none)
              else
                bif Nat.beq pc 85 then some (.ishr, 0, 0, 0, 0) else none)
            else
              bif Nat.blt pc 88 then
                (bif Nat.beq pc 86 then some (.bipush 15, 0, 0, 0, 15) else none)
              else
                bif Nat.beq pc 88 then some (.iand, 0, 0, 0, 0) else none)
          else
            bif Nat.blt pc 93 then
              (bif Nat.blt pc 90 then
                (bif Nat.beq pc 89 then some (.iadd, 0, 0, 0, 0) else none)
              else
                bif Nat.beq pc 90 then some (.if_icmp .ge (32), 122, 0, 0, 0) else none)
            else
              bif Nat.blt pc 94 then
                (bif Nat.beq pc 93 then some (.aload_n 0, 0, 0, 0, 0) else none)
              else
                bif Nat.blt pc 97 then
                  (bif Nat.beq pc 94 then some (.getfield 13, 10, 5, 1, 0) else none)
                else
                  bif Nat.beq pc 97 then some (.iload 6, 6, 0, 0, 0) else none)
  else
    bif Nat.blt pc 157 then
      (bif Nat.blt pc 128 then
        (bif Nat.blt pc 114 then
          (bif Nat.blt pc 106 then
            (bif Nat.blt pc 103 then
              (bif Nat.blt pc 100 then
                (bif Nat.beq pc 99 then some (.aload_n 0, 0, 0, 0, 0) else none)
              else
                bif Nat.beq pc 100 then some (.getfield 13, 10, 5, 1, 0) else none)
            else
              bif Nat.blt pc 105 then
                (bif Nat.beq pc 103 then some (.iload 6, 6, 0, 0, 0) else none)
              else
                bif Nat.beq pc 105 then some (.iaload, 0, 0, 0, 0) else none)
          else
            bif Nat.blt pc 110 then
              (bif Nat.blt pc 107 then
                (bif Nat.beq pc 106 then some (.iconst 3, 0, 0, 0, 3) else none)
              else
                bif Nat.beq pc 107 then some (.if_icmp .ne (7), 114, 0, 0, 0) else none)
            else
              bif Nat.blt pc 111 then
                (bif Nat.beq pc 110 then some (.iconst 3, 0, 0, 0, 3) else none)
              else
                bif Nat.beq pc 111 then some (.goto 4, 115, 0, 0, 0) else none)
        else
          bif Nat.blt pc 122 then
            (bif Nat.blt pc 116 then
              (bif Nat.blt pc 115 then
                (bif Nat.beq pc 114 then some (.iconst 2, 0, 0, 0, 2) else none)
              else
                bif Nat.beq pc 115 then some (.iastore, 0, 0, 0, 0) else none)
            else
              bif Nat.blt pc 119 then
                (bif Nat.beq pc 116 then some (.iinc 6 1, 6, 0, 0, 1) else none)
              else
                bif Nat.beq pc 119 then some (.goto (-51), 68, 0, 0, 0) else none)
          else
            bif Nat.blt pc 126 then
              (bif Nat.blt pc 124 then
                (bif Nat.beq pc 122 then some (.iload 5, 5, 0, 0, 0) else none)
              else
                bif Nat.beq pc 124 then some (.bipush 11, 0, 0, 0, 11) else none)
            else
              bif Nat.blt pc 127 then
                (bif Nat.beq pc 126 then some (.ishr, 0, 0, 0, 0) else none)
              else
                bif Nat.beq pc 127 then some (.iconst 1, 0, 0, 0, 1) else none)
      else
        bif Nat.blt pc 141 then
          (bif Nat.blt pc 134 then
            (bif Nat.blt pc 130 then
              (bif Nat.blt pc 129 then
                (bif Nat.beq pc 128 then some (.iand, 0, 0, 0, 0) else none)
              else
                bif Nat.beq pc 129 then some (.iconst 1, 0, 0, 0, 1) else none)
            else
              bif Nat.blt pc 133 then
                (bif Nat.beq pc 130 then some (.if_icmp .ne (22), 152, 0, 0, 0) else none)
              else
                bif Nat.beq pc 133 then some (.aload_n 0, 0, 0, 0, 0) else none)
          else
            bif Nat.blt pc 139 then
              (bif Nat.blt pc 137 then
                (bif Nat.beq pc 134 then some (.getfield 22, 10, 8, 1, 0) else none)
              else
                bif Nat.beq pc 137 then some (.iload 4, 4, 0, 0, 0) else none)
            else
              bif Nat.blt pc 140 then
                (bif Nat.beq pc 139 then some (.iaload, 0, 0, 0, 0) else none)
              else
                bif Nat.beq pc 140 then some (.iconst 3, 0, 0, 0, 3) else none)
        else
          bif Nat.blt pc 150 then
            (bif Nat.blt pc 145 then
              (bif Nat.blt pc 144 then
                (bif Nat.beq pc 141 then some (.if_icmp .eq (11), 152, 0, 0, 0) else none)
              else
                bif Nat.beq pc 144 then some (.aload_n 0, 0, 0, 0, 0) else none)
            else
              bif Nat.blt pc 148 then
                (bif Nat.beq pc 145 then some (.getfield 22, 10, 8, 1, 0) else none)
              else
                bif Nat.beq pc 148 then some (.iload 4, 4, 0, 0, 0) else none)
          else
            bif Nat.blt pc 152 then
              (bif Nat.blt pc 151 then
                (bif Nat.beq pc 150 then some (.iconst 2, 0, 0, 0, 2) else none)
              else
                bif Nat.beq pc 151 then some (.iastore, 0, 0, 0, 0) else none)
            else
              bif Nat.blt pc 154 then
                (bif Nat.beq pc 152 then some (.iload 5, 5, 0, 0, 0) else none)
              else
                bif Nat.blt pc 156 then
                  (bif Nat.beq pc 154 then some (.bipush 12, 0, 0, 0, 12) else none)
                else
                  bif Nat.beq pc 156 then some (.ishr, 0, 0, 0, 0) else none)
    else
      bif Nat.blt pc 184 then
        (bif Nat.blt pc 170 then
          (bif Nat.blt pc 163 then
            (bif Nat.blt pc 159 then
              (bif Nat.blt pc 158 then
                (bif Nat.beq pc 157 then some (.iconst 1, 0, 0, 0, 1) else none)
              else
                bif Nat.beq pc 158 then some (.iand, 0, 0, 0, 0) else none)
            else
              bif Nat.blt pc 160 then
                (bif Nat.beq pc 159 then some (.iconst 1, 0, 0, 0, 1) else none)
              else
                bif Nat.beq pc 160 then some (.if_icmp .ne (22), 182, 0, 0, 0) else none)
          else
            bif Nat.blt pc 167 then
              (bif Nat.blt pc 164 then
                (bif Nat.beq pc 163 then some (.aload_n 0, 0, 0, 0, 0) else none)
              else
                bif Nat.beq pc 164 then some (.getfield 25, 10, 9, 1, 0) else none)
            else
              bif Nat.blt pc 169 then
                (bif Nat.beq pc 167 then some (.iload 4, 4, 0, 0, 0) else none)
              else
                bif Nat.beq pc 169 then some (.iaload, 0, 0, 0, 0) else none)
        else
          bif Nat.blt pc 178 then
            (bif Nat.blt pc 174 then
              (bif Nat.blt pc 171 then
                (bif Nat.beq pc 170 then some (.iconst 3, 0, 0, 0, 3) else none)
              else
                bif Nat.beq pc 171 then some (.if_icmp .eq (11), 182, 0, 0, 0) else none)
            else
              bif Nat.blt pc 175 then
                (bif Nat.beq pc 174 then some (.aload_n 0, 0, 0, 0, 0) else none)
              else
                bif Nat.beq pc 175 then some (.getfield 25, 10, 9, 1, 0) else none)
          else
            bif Nat.blt pc 181 then
              (bif Nat.blt pc 180 then
                (bif Nat.beq pc 178 then some (.iload 4, 4, 0, 0, 0) else none)
              else
                bif Nat.beq pc 180 then some (.iconst 2, 0, 0, 0, 2) else none)
            else
              bif Nat.blt pc 182 then
                (bif Nat.beq pc 181 then some (.iastore, 0, 0, 0, 0) else none)
              else
                bif Nat.beq pc 182 then some (.iload 5, 5, 0, 0, 0) else none)
      else
        bif Nat.blt pc 196 then
          (bif Nat.blt pc 191 then
            (bif Nat.blt pc 187 then
              (bif Nat.blt pc 186 then
                (bif Nat.beq pc 184 then some (.bipush 13, 0, 0, 0, 13) else none)
              else
                bif Nat.beq pc 186 then some (.ishr, 0, 0, 0, 0) else none)
            else
              bif Nat.blt pc 188 then
                (bif Nat.beq pc 187 then some (.aload_n 0, 0, 0, 0, 0) else none)
              else
                bif Nat.beq pc 188 then some (.getfield 50, 10, 17, 1, 0) else none)
          else
            bif Nat.blt pc 194 then
              (bif Nat.blt pc 193 then
                (bif Nat.beq pc 191 then some (.iload 4, 4, 0, 0, 0) else none)
              else
                bif Nat.beq pc 193 then some (.iaload, 0, 0, 0, 0) else none)
            else
              bif Nat.blt pc 195 then
                (bif Nat.beq pc 194 then some (.iconst 1, 0, 0, 0, 1) else none)
              else
                bif Nat.beq pc 195 then some (.iadd, 0, 0, 0, 0) else none)
        else
          bif Nat.blt pc 205 then
            (bif Nat.blt pc 200 then
              (bif Nat.blt pc 199 then
                (bif Nat.beq pc 196 then some (.if_icmp .ne (11), 207, 0, 0, 0) else none)
              else
                bif Nat.beq pc 199 then some (.aload_n 0, 0, 0, 0, 0) else none)
            else
              bif Nat.blt pc 203 then
                (bif Nat.beq pc 200 then some (.getfield 56, 10, 19, 1, 0) else none)
              else
                bif Nat.beq pc 203 then some (.iload 4, 4, 0, 0, 0) else none)
          else
            bif Nat.blt pc 207 then
              (bif Nat.blt pc 206 then
                (bif Nat.beq pc 205 then some (.iconst 1, 0, 0, 0, 1) else none)
              else
                bif Nat.beq pc 206 then some (.bastore, 0, 0, 0, 0) else none)
            else
              bif Nat.blt pc 210 then
                (bif Nat.beq pc 207 then some (.iinc 3 1, 3, 0, 0, 1) else none)
              else
                bif Nat.blt pc 213 then
                  (bif Nat.beq pc 210 then some (.goto (-179), 31, 0, 0, 0) else none)
                else
                  bif Nat.beq pc 213 then some (.return_, 0, 0, 0, 0) else none
def i_M_loses : Nat → Option Ent := ab_tab 214 t_M_loses
def h_M_loses (pc : Nat) : Nat × List Bool := bif Nat.beq pc 29 then (1, [true, true, true, false, false, false, false]) else bif Nat.beq pc 31 then (1, [true, true, true, true, false, false, false]) else bif Nat.beq pc 68 then (1, [true, true, true, true, true, true, true]) else bif Nat.beq pc 115 then (1, [true, true, true, true, true, true, true]) else bif Nat.beq pc 152 then (1, [true, true, true, true, true, true, false]) else bif Nat.beq pc 182 then (1, [true, true, true, true, true, true, false]) else bif Nat.beq pc 207 then (1, [true, true, true, true, false, false, false]) else (0, [])
def s_M_loses (pc : Nat) : List (Int32 × Nat) × Nat := ([], 0)
noncomputable def eV_M_loses : Nat → List AV → Mm → Option Mm := ab_ev []
noncomputable def eI_M_loses : Nat → List AV → Mm → Option (Int32 × Mm) := ab_ev []
noncomputable def b_M_loses_0 (f : Nat) (v0 : Nat) (v1 : Int32) (v2 : Int32) (m : Mm) : Option Rs := ab_ex KT none s_M_loses eV_M_loses eI_M_loses i_M_loses h_M_loses f 0 [some (.inr (.inr (28, some v0))), some (.inl v1), some (.inl v2), none, none, none, none] [] m
noncomputable def b_M_loses_29 (f : Nat) (v0 : Nat) (v1 : Int32) (v2 : Int32) (m : Mm) : Option Rs := ab_ex KT none s_M_loses eV_M_loses eI_M_loses i_M_loses h_M_loses f 29 [some (.inr (.inr (28, some v0))), some (.inl v1), some (.inl v2), none, none, none, none] [] m
noncomputable def b_M_loses_31 (f : Nat) (v0 : Nat) (v1 : Int32) (v2 : Int32) (v3 : Int32) (m : Mm) : Option Rs := ab_ex KT none s_M_loses eV_M_loses eI_M_loses i_M_loses h_M_loses f 31 [some (.inr (.inr (28, some v0))), some (.inl v1), some (.inl v2), some (.inl v3), none, none, none] [] m
noncomputable def b_M_loses_68 (f : Nat) (v0 : Nat) (v1 : Int32) (v2 : Int32) (v3 : Int32) (v4 : Int32) (v5 : Int32) (v6 : Int32) (m : Mm) : Option Rs := ab_ex KT none s_M_loses eV_M_loses eI_M_loses i_M_loses h_M_loses f 68 [some (.inr (.inr (28, some v0))), some (.inl v1), some (.inl v2), some (.inl v3), some (.inl v4), some (.inl v5), some (.inl v6)] [] m
noncomputable def b_M_loses_115 (f : Nat) (v0 : Nat) (v1 : Int32) (v2 : Int32) (v3 : Int32) (v4 : Int32) (v5 : Int32) (v6 : Int32) (u0 : Nat) (u1 : Int32) (u2 : Int32) (m : Mm) : Option Rs := ab_ex KT none s_M_loses eV_M_loses eI_M_loses i_M_loses h_M_loses f 115 [some (.inr (.inr (28, some v0))), some (.inl v1), some (.inl v2), some (.inl v3), some (.inl v4), some (.inl v5), some (.inl v6)] [.inl u2, .inl u1, .inr (.inr (30, some u0))] m
noncomputable def b_M_loses_152 (f : Nat) (v0 : Nat) (v1 : Int32) (v2 : Int32) (v3 : Int32) (v4 : Int32) (v5 : Int32) (m : Mm) : Option Rs := ab_ex KT none s_M_loses eV_M_loses eI_M_loses i_M_loses h_M_loses f 152 [some (.inr (.inr (28, some v0))), some (.inl v1), some (.inl v2), some (.inl v3), some (.inl v4), some (.inl v5), none] [] m
noncomputable def b_M_loses_182 (f : Nat) (v0 : Nat) (v1 : Int32) (v2 : Int32) (v3 : Int32) (v4 : Int32) (v5 : Int32) (m : Mm) : Option Rs := ab_ex KT none s_M_loses eV_M_loses eI_M_loses i_M_loses h_M_loses f 182 [some (.inr (.inr (28, some v0))), some (.inl v1), some (.inl v2), some (.inl v3), some (.inl v4), some (.inl v5), none] [] m
noncomputable def b_M_loses_207 (f : Nat) (v0 : Nat) (v1 : Int32) (v2 : Int32) (v3 : Int32) (m : Mm) : Option Rs := ab_ex KT none s_M_loses eV_M_loses eI_M_loses i_M_loses h_M_loses f 207 [some (.inr (.inr (28, some v0))), some (.inl v1), some (.inl v2), some (.inl v3), none, none, none] [] m
set_option maxRecDepth 100000 in
set_option maxHeartbeats 4000000 in
theorem b_M_loses_0_eq (f : Nat) (v0 : Nat) (v1 : Int32) (v2 : Int32) (m : Mm) : b_M_loses_0 (f + 1) v0 v1 v2 m =
    (ab_ix v2 1120).bind fun i1 =>
    ab_let (ab_uI m 162 (v0 + 30) i1 (2 : Int32)) fun m2 =>
    (ab_ix v2 1120).bind fun i3 =>
    (ab_ix v1 2).bind fun i4 =>
    if (m2.1 164 (v0 + 32) i3) = (m2.1 150 (v0 + 18) i4) then
      (ab_ix v1 2).bind fun i5 =>
      (ab_bo (1 : Int32)).bind fun y7 =>
      ab_let (ab_uI m2 157 (v0 + 25) i5 y7) fun m6 =>
      b_M_loses_29 f v0 v1 v2 m6
    else
      b_M_loses_29 f v0 v1 v2 m2 := rfl
set_option maxRecDepth 100000 in
set_option maxHeartbeats 4000000 in
theorem b_M_loses_29_eq (f : Nat) (v0 : Nat) (v1 : Int32) (v2 : Int32) (m : Mm) : b_M_loses_29 (f + 1) v0 v1 v2 m =
    b_M_loses_31 f v0 v1 v2 (0 : Int32) m := rfl
set_option maxRecDepth 100000 in
set_option maxHeartbeats 4000000 in
theorem b_M_loses_31_eq (f : Nat) (v0 : Nat) (v1 : Int32) (v2 : Int32) (v3 : Int32) (m : Mm) : b_M_loses_31 (f + 1) v0 v1 v2 v3 m =
    if (4 : Int32) ≤ v3 then
      some (.inl (none, m))
    else
      ab_let ((((4 : Int32) * v1) + v3)) fun x1 =>
      (ab_ix (((4 : Int32) * v2) + v3) 4480).bind fun i2 =>
      ab_let ((m.1 165 (v0 + 33) i2)) fun x3 =>
      ab_let ((((64 : Int32) * x1) + (x3 &&& (127 : Int32)))) fun x4 =>
      b_M_loses_68 f v0 v1 v2 v3 x1 x3 x4 m := rfl
set_option maxRecDepth 100000 in
set_option maxHeartbeats 4000000 in
theorem b_M_loses_68_eq (f : Nat) (v0 : Nat) (v1 : Int32) (v2 : Int32) (v3 : Int32) (v4 : Int32) (v5 : Int32) (v6 : Int32) (m : Mm) : b_M_loses_68 (f + 1) v0 v1 v2 v3 v4 v5 v6 m =
    if ((((64 : Int32) * v4) + (v5 &&& (127 : Int32))) + ((v5 >>> ((7 : Int32) &&& 31)) &&& (15 : Int32))) ≤ v6 then
      if ((v5 >>> ((11 : Int32) &&& 31)) &&& (1 : Int32)) = (1 : Int32) then
        (ab_ix v4 8).bind fun i1 =>
        if (m.1 137 (v0 + 5) i1) = (3 : Int32) then
          b_M_loses_152 f v0 v1 v2 v3 v4 v5 m
        else
          (ab_ix v4 8).bind fun i2 =>
          ab_let (ab_uI m 137 (v0 + 5) i2 (2 : Int32)) fun m3 =>
          b_M_loses_152 f v0 v1 v2 v3 v4 v5 m3
      else
        b_M_loses_152 f v0 v1 v2 v3 v4 v5 m
    else
      (ab_ix v6 512).bind fun i4 =>
      if (m.1 134 (v0 + 2) i4) = (3 : Int32) then
        b_M_loses_115 f v0 v1 v2 v3 v4 v5 v6 (v0 + 2) v6 (3 : Int32) m
      else
        b_M_loses_115 f v0 v1 v2 v3 v4 v5 v6 (v0 + 2) v6 (2 : Int32) m := rfl
set_option maxRecDepth 100000 in
set_option maxHeartbeats 4000000 in
theorem b_M_loses_115_eq (f : Nat) (v0 : Nat) (v1 : Int32) (v2 : Int32) (v3 : Int32) (v4 : Int32) (v5 : Int32) (v6 : Int32) (u0 : Nat) (u1 : Int32) (u2 : Int32) (m : Mm) : b_M_loses_115 (f + 1) v0 v1 v2 v3 v4 v5 v6 u0 u1 u2 m =
    (ab_ix u1 512).bind fun i1 =>
    ab_let (ab_uI m 134 u0 i1 u2) fun m2 =>
    ab_let (v6 + (1 : Int32)) fun x3 =>
    b_M_loses_68 f v0 v1 v2 v3 v4 v5 x3 m2 := rfl
set_option maxRecDepth 100000 in
set_option maxHeartbeats 4000000 in
theorem b_M_loses_152_eq (f : Nat) (v0 : Nat) (v1 : Int32) (v2 : Int32) (v3 : Int32) (v4 : Int32) (v5 : Int32) (m : Mm) : b_M_loses_152 (f + 1) v0 v1 v2 v3 v4 v5 m =
    if ((v5 >>> ((12 : Int32) &&& 31)) &&& (1 : Int32)) = (1 : Int32) then
      (ab_ix v4 8).bind fun i1 =>
      if (m.1 138 (v0 + 6) i1) = (3 : Int32) then
        b_M_loses_182 f v0 v1 v2 v3 v4 v5 m
      else
        (ab_ix v4 8).bind fun i2 =>
        ab_let (ab_uI m 138 (v0 + 6) i2 (2 : Int32)) fun m3 =>
        b_M_loses_182 f v0 v1 v2 v3 v4 v5 m3
    else
      b_M_loses_182 f v0 v1 v2 v3 v4 v5 m := rfl
set_option maxRecDepth 100000 in
set_option maxHeartbeats 4000000 in
theorem b_M_loses_182_eq (f : Nat) (v0 : Nat) (v1 : Int32) (v2 : Int32) (v3 : Int32) (v4 : Int32) (v5 : Int32) (m : Mm) : b_M_loses_182 (f + 1) v0 v1 v2 v3 v4 v5 m =
    (ab_ix v4 8).bind fun i1 =>
    if (v5 >>> ((13 : Int32) &&& 31)) = ((m.1 146 (v0 + 14) i1) + (1 : Int32)) then
      (ab_ix v4 8).bind fun i2 =>
      (ab_bo (1 : Int32)).bind fun y4 =>
      ab_let (ab_uI m 148 (v0 + 16) i2 y4) fun m3 =>
      b_M_loses_207 f v0 v1 v2 v3 m3
    else
      b_M_loses_207 f v0 v1 v2 v3 m := rfl
set_option maxRecDepth 100000 in
set_option maxHeartbeats 4000000 in
theorem b_M_loses_207_eq (f : Nat) (v0 : Nat) (v1 : Int32) (v2 : Int32) (v3 : Int32) (m : Mm) : b_M_loses_207 (f + 1) v0 v1 v2 v3 m =
    ab_let (v3 + (1 : Int32)) fun x1 =>
    b_M_loses_31 f v0 v1 v2 x1 m := rfl
noncomputable def r_M_loses : Nat → Int32 → Int32 → Mm → Option Mm := ab_seal fun v0 v1 v2 m => ab_rV (b_M_loses_0 50000 v0 v1 v2 m)
theorem r_M_loses_eq (v0 : Nat) (v1 : Int32) (v2 : Int32) (m : Mm) : r_M_loses v0 v1 v2 m = ab_rV (b_M_loses_0 50000 v0 v1 v2 m) := by
  unfold r_M_loses
  rw [ab_seal_eq]
noncomputable def c_M_loses : List AV → Mm → Option Mm := fun av m => match av with
  | [.inr (.inr (kv0, ov0)), .inl v1, .inl v2] => if kv0 = 28 then (ov0.bind fun v0 => r_M_loses v0 v1 v2 m) else none
  | _ => none
theorem c_M_loses_inv {av : List AV} {m : Mm} {r : Mm} (h : c_M_loses av m = some r) : ∃ (v0 : Nat) (v1 : Int32) (v2 : Int32), av = [.inr (.inr (28, some v0)), .inl v1, .inl v2] ∧ r_M_loses v0 v1 v2 m = some r := by
  unfold c_M_loses at h
  split at h
  · rename_i kv0 ov0 v1 v2
    by_cases hkv0 : kv0 = 28
    case neg => rw [if_neg hkv0] at h; cases h
    rw [if_pos hkv0] at h
    subst hkv0
    obtain ⟨v0, hev0, h⟩ := Option.bind_eq_some_iff.mp h
    subst hev0
    exact ⟨v0, v1, v2, rfl, h⟩
  · cases h
def cs_M_loses : List Nat := []
set_option maxRecDepth 100000 in
theorem E_M_loses : ∀ (pc : Nat) (q : Ent), i_M_loses pc = some q → ab_E KT CL ab_gW "StreamTransportModel" "loses" none prog_12_method_28_code s_M_loses 7 pc q.1 q.2.1 q.2.2.1 q.2.2.2.1 q.2.2.2.2 := fun pc q hq =>
  ab_Eb_ok lc_M lj_M fl_M (fpn_M "loses") nw_M na_M nq_M (ab_tab_all (t := t_M_loses) (chk := fun pc q => ab_Eb none prog_12_method_28_code s_M_loses 7 LC_M LJ_M FL_M FPn_M NW_M NA_M NQ_M pc q.1 q.2.1 q.2.2.1 q.2.2.2.1 q.2.2.2.2) (by decide +kernel) hq)
set_option maxRecDepth 100000 in
theorem kp_M_loses {av : List AV} {m : Mm} {r : Mm} (h : c_M_loses av m = some r) : ab_kp m r := by
  obtain ⟨v0, v1, v2, -, h⟩ := c_M_loses_inv h
  rw [r_M_loses_eq] at h
  have hV : ∀ a av m m', eV_M_loses a av m = some m' → ab_kp m m' := ab_ev_all (P := fun _ m r => ab_kp m r) [] (fun q hq => by cases hq)
  have hI : ∀ a av m q, eI_M_loses a av m = some q → ab_kp m q.2 := ab_ev_all (P := fun _ (m : Mm) (r : Int32 × Mm) => ab_kp m r.2) [] (fun q hq => by cases hq)
  exact ab_kprel (ρ := .inl (none, r)) (ab_tab_isn (t := t_M_loses) (by decide +kernel)) hV hI (ab_rV_inv h)
set_option maxRecDepth 100000 in
theorem cl_M_loses (l : Launch) : ∀ (pc : Nat) (q : Ent), i_M_loses pc = some q → ab_inv q.1 = true → ab_CR l KT CL none ab_gW "StreamTransportModel" prog_12_method_28_code 7 0 0 eV_M_loses eI_M_loses pc q := by
  intro pc q hq hi
  have hm : pc ∈ cs_M_loses := ab_tab_cs (t := t_M_loses) (by decide +kernel) hq hi
  cases hm
theorem cw_M_loses : ab_cw y_M_loses prog_12_method_28_code 7 2 none := ⟨ab_gW_in 1285 (by decide +kernel) rfl, ab_gW_in 71 (by decide +kernel) rfl, by decide +kernel, by decide +kernel, by decide +kernel⟩
theorem is_M_loses : Cond.instanceMethod y_M_loses ∈ ab_gW := ab_gW_in 1284 (by decide +kernel) rfl
theorem sl_M_loses : Cond.selects "StreamTransportModel" y_M_loses y_M_loses ∈ ab_gW := ab_gW_in 54 (by decide +kernel) rfl
set_option maxRecDepth 100000 in
theorem cm_M_loses (l : Launch) {av : List AV} {m : Mm} {r : Mm} (h0 : c_M_loses av m = some r) : ∃ (k q : Nat) (av' : List AV) (ci : Nat) (fs : List (Nat × Nat × Nat × Nat)) (z : vw_C), av = .inr (.inr (k, some q)) :: av' ∧ av'.length = 2 ∧ k ≠ 0 ∧ KT[k]? = some (.inl (ci, fs)) ∧ CL[ci]? = some z ∧ z.1 = "StreamTransportModel" ∧ ab_nos av' ∧ ab_Met l KT CL y_M_loses (Cond.code y_M_loses prog_12_method_28_code 7 none :: ab_gW) 0 0 none av m none r := by
  obtain ⟨v0, v1, v2, hav, h⟩ := c_M_loses_inv h0
  rw [r_M_loses_eq] at h
  have hmo : ab_mo m r := ab_kp_mo (kp_M_loses h0)
  subst hav
  exact ⟨_, _, _, _, _, _, rfl, rfl, by decide, rfl, rfl, rfl, (by intro v hv q e; subst e; simp at hv), ab_met (by decide +kernel) KT_0 KT_nd KT_k3 E_M_loses (cl_M_loses l) hmo (Nat.le_of_ble_eq_true rfl) (ab_rV_inv h) (fun v hv => by cases hv)⟩
/-! StreamTransportModel.numberAt()I -/
def y_M_numberAt : MethodName := ⟨"StreamTransportModel", "numberAt", "()I"⟩
def t_M_numberAt (pc : Nat) : Option Ent :=
  bif Nat.blt pc 75 then
    (bif Nat.blt pc 39 then
      (bif Nat.blt pc 18 then
        (bif Nat.blt pc 9 then
          (bif Nat.blt pc 4 then
            (bif Nat.blt pc 1 then
              (bif Nat.beq pc 0 then some (.aload_n 0, 0, 0, 0, 0) else none)
            else
              bif Nat.beq pc 1 then some (.getfield 220, 10, 43, 0, 0) else none)
          else
            bif Nat.blt pc 5 then
              (bif Nat.beq pc 4 then some (.aload_n 0, 0, 0, 0, 0) else none)
            else
              bif Nat.blt pc 8 then
                (bif Nat.beq pc 5 then some (.getfield 223, 10, 42, 0, 0) else none)
              else
                bif Nat.beq pc 8 then some (.iconst 2, 0, 0, 0, 2) else none)
        else
          bif Nat.blt pc 13 then
            (bif Nat.blt pc 10 then
              (bif Nat.beq pc 9 then some (.isub, 0, 0, 0, 0) else none)
            else
              bif Nat.beq pc 10 then some (.if_icmp .ge (15), 25, 0, 0, 0) else none)
          else
            bif Nat.blt pc 14 then
              (bif Nat.beq pc 13 then some (.aload_n 0, 0, 0, 0, 0) else none)
            else
              bif Nat.blt pc 17 then
                (bif Nat.beq pc 14 then some (.getfield 113, 10, 39, 1, 0) else none)
              else
                bif Nat.beq pc 17 then some (.aload_n 0, 0, 0, 0, 0) else none)
      else
        bif Nat.blt pc 29 then
          (bif Nat.blt pc 22 then
            (bif Nat.blt pc 21 then
              (bif Nat.beq pc 18 then some (.getfield 220, 10, 43, 0, 0) else none)
            else
              bif Nat.beq pc 21 then some (.iaload, 0, 0, 0, 0) else none)
          else
            bif Nat.blt pc 25 then
              (bif Nat.beq pc 22 then some (.goto 6, 28, 0, 0, 0) else none)
            else
              bif Nat.blt pc 28 then
                (bif Nat.beq pc 25 then some (.sipush 255, 0, 0, 0, 255) else none)
              else
                bif Nat.beq pc 28 then some (.istore_n 1, 1, 0, 0, 0) else none)
        else
          bif Nat.blt pc 32 then
            (bif Nat.blt pc 30 then
              (bif Nat.beq pc 29 then some (.iload_n 1, 1, 0, 0, 0) else none)
            else
              bif Nat.beq pc 30 then some (.bipush 64, 0, 0, 0, 64) else none)
          else
            bif Nat.blt pc 35 then
              (bif Nat.beq pc 32 then some (.if_icmp .ge (7), 39, 0, 0, 0) else none)
            else
              bif Nat.blt pc 36 then
                (bif Nat.beq pc 35 then some (.iconst 1, 0, 0, 0, 1) else none)
              else
                bif Nat.beq pc 36 then some (.goto 15, 51, 0, 0, 0) else none)
    else
      bif Nat.blt pc 59 then
        (bif Nat.blt pc 50 then
          (bif Nat.blt pc 43 then
            (bif Nat.blt pc 40 then
              (bif Nat.beq pc 39 then some (.iload_n 1, 1, 0, 0, 0) else none)
            else
              bif Nat.beq pc 40 then some (.sipush 128, 0, 0, 0, 128) else none)
          else
            bif Nat.blt pc 46 then
              (bif Nat.beq pc 43 then some (.if_icmp .ge (7), 50, 0, 0, 0) else none)
            else
              bif Nat.blt pc 47 then
                (bif Nat.beq pc 46 then some (.iconst 2, 0, 0, 0, 2) else none)
              else
                bif Nat.beq pc 47 then some (.goto 4, 51, 0, 0, 0) else none)
        else
          bif Nat.blt pc 52 then
            (bif Nat.blt pc 51 then
              (bif Nat.beq pc 50 then some (.iconst 4, 0, 0, 0, 4) else none)
            else
              bif Nat.beq pc 51 then some (.istore_n 2, 2, 0, 0, 0) else none)
          else
            bif Nat.blt pc 53 then
              (bif Nat.beq pc 52 then some (.iload_n 1, 1, 0, 0, 0) else none)
            else
              bif Nat.blt pc 56 then
                (bif Nat.beq pc 53 then some (.sipush 192, 0, 0, 0, 192) else none)
              else
                bif Nat.beq pc 56 then some (.if_icmp .ge (18), 74, 0, 0, 0) else none)
      else
        bif Nat.blt pc 66 then
          (bif Nat.blt pc 63 then
            (bif Nat.blt pc 60 then
              (bif Nat.beq pc 59 then some (.aload_n 0, 0, 0, 0, 0) else none)
            else
              bif Nat.beq pc 60 then some (.getfield 220, 10, 43, 0, 0) else none)
          else
            bif Nat.blt pc 64 then
              (bif Nat.beq pc 63 then some (.iload_n 2, 2, 0, 0, 0) else none)
            else
              bif Nat.blt pc 65 then
                (bif Nat.beq pc 64 then some (.iadd, 0, 0, 0, 0) else none)
              else
                bif Nat.beq pc 65 then some (.aload_n 0, 0, 0, 0, 0) else none)
        else
          bif Nat.blt pc 70 then
            (bif Nat.blt pc 69 then
              (bif Nat.beq pc 66 then some (.getfield 223, 10, 42, 0, 0) else none)
            else
              bif Nat.beq pc 69 then some (.iconst 2, 0, 0, 0, 2) else none)
          else
            bif Nat.blt pc 71 then
              (bif Nat.beq pc 70 then some (.isub, 0, 0, 0, 0) else none)
            else
              bif Nat.blt pc 74 then
                (bif Nat.beq pc 71 then some (.if_icmp .le (10), 81, 0, 0, 0) else none)
              else
                bif Nat.beq pc 74 then some (.aload_n 0, 0, 0, 0, 0) else none)
  else
    bif Nat.blt pc 107 then
      (bif Nat.blt pc 91 then
        (bif Nat.blt pc 82 then
          (bif Nat.blt pc 79 then
            (bif Nat.blt pc 76 then
              (bif Nat.beq pc 75 then some (.iconst 1, 0, 0, 0, 1) else none)
            else
              bif Nat.beq pc 76 then some (.putfield 226, 10, 46, 0, 0) else none)
          else
            bif Nat.blt pc 80 then
              (bif Nat.beq pc 79 then some (.iconst 0, 0, 0, 0, 0) else none)
            else
              bif Nat.blt pc 81 then
                (bif Nat.beq pc 80 then some (.ireturn, 0, 0, 0, 0) else none)
              else
                bif Nat.beq pc 81 then some (.iload_n 2, 2, 0, 0, 0) else none)
        else
          bif Nat.blt pc 86 then
            (bif Nat.blt pc 83 then
              (bif Nat.beq pc 82 then some (.iconst 1, 0, 0, 0, 1) else none)
            else
              bif Nat.beq pc 83 then some (.if_icmp .ne (7), 90, 0, 0, 0) else none)
          else
            bif Nat.blt pc 87 then
              (bif Nat.beq pc 86 then some (.iload_n 1, 1, 0, 0, 0) else none)
            else
              bif Nat.blt pc 90 then
                (bif Nat.beq pc 87 then some (.goto 7, 94, 0, 0, 0) else none)
              else
                bif Nat.beq pc 90 then some (.iload_n 1, 1, 0, 0, 0) else none)
      else
        bif Nat.blt pc 98 then
          (bif Nat.blt pc 94 then
            (bif Nat.blt pc 93 then
              (bif Nat.beq pc 91 then some (.bipush 63, 0, 0, 0, 63) else none)
            else
              bif Nat.beq pc 93 then some (.iand, 0, 0, 0, 0) else none)
          else
            bif Nat.blt pc 95 then
              (bif Nat.beq pc 94 then some (.istore_n 3, 3, 0, 0, 0) else none)
            else
              bif Nat.blt pc 96 then
                (bif Nat.beq pc 95 then some (.iconst 1, 0, 0, 0, 1) else none)
              else
                bif Nat.beq pc 96 then some (.istore 4, 4, 0, 0, 0) else none)
        else
          bif Nat.blt pc 101 then
            (bif Nat.blt pc 100 then
              (bif Nat.beq pc 98 then some (.iload 4, 4, 0, 0, 0) else none)
            else
              bif Nat.beq pc 100 then some (.iload_n 2, 2, 0, 0, 0) else none)
          else
            bif Nat.blt pc 104 then
              (bif Nat.beq pc 101 then some (.if_icmp .ge (27), 128, 0, 0, 0) else none)
            else
              bif Nat.blt pc 105 then
                (bif Nat.beq pc 104 then some (.iload_n 3, 3, 0, 0, 0) else none)
              else
                bif Nat.beq pc 105 then some (.bipush 8, 0, 0, 0, 8) else none)
    else
      bif Nat.blt pc 122 then
        (bif Nat.blt pc 116 then
          (bif Nat.blt pc 109 then
            (bif Nat.blt pc 108 then
              (bif Nat.beq pc 107 then some (.ishl, 0, 0, 0, 0) else none)
            else
              bif Nat.beq pc 108 then some (.aload_n 0, 0, 0, 0, 0) else none)
          else
            bif Nat.blt pc 112 then
              (bif Nat.beq pc 109 then some (.getfield 113, 10, 39, 1, 0) else none)
            else
              bif Nat.blt pc 113 then
                (bif Nat.beq pc 112 then some (.aload_n 0, 0, 0, 0, 0) else none)
              else
                bif Nat.beq pc 113 then some (.getfield 220, 10, 43, 0, 0) else none)
        else
          bif Nat.blt pc 119 then
            (bif Nat.blt pc 118 then
              (bif Nat.beq pc 116 then some (.iload 4, 4, 0, 0, 0) else none)
            else
              bif Nat.beq pc 118 then some (.iadd, 0, 0, 0, 0) else none)
          else
            bif Nat.blt pc 120 then
              (bif Nat.beq pc 119 then some (.iaload, 0, 0, 0, 0) else none)
            else
              bif Nat.blt pc 121 then
                (bif Nat.beq pc 120 then some (.ior, 0, 0, 0, 0) else none)
              else
                bif Nat.beq pc 121 then some (.istore_n 3, 3, 0, 0, 0) else none)
      else
        bif Nat.blt pc 133 then
          (bif Nat.blt pc 128 then
            (bif Nat.blt pc 125 then
              (bif Nat.beq pc 122 then some (.iinc 4 1, 4, 0, 0, 1) else none)
            else
              bif Nat.beq pc 125 then some (.goto (-27), 98, 0, 0, 0) else none)
          else
            bif Nat.blt pc 129 then
              (bif Nat.beq pc 128 then some (.aload_n 0, 0, 0, 0, 0) else none)
            else
              bif Nat.blt pc 130 then
                (bif Nat.beq pc 129 then some (.aload_n 0, 0, 0, 0, 0) else none)
              else
                bif Nat.beq pc 130 then some (.getfield 220, 10, 43, 0, 0) else none)
        else
          bif Nat.blt pc 135 then
            (bif Nat.blt pc 134 then
              (bif Nat.beq pc 133 then some (.iload_n 2, 2, 0, 0, 0) else none)
            else
              bif Nat.beq pc 134 then some (.iadd, 0, 0, 0, 0) else none)
          else
            bif Nat.blt pc 138 then
              (bif Nat.beq pc 135 then some (.putfield 220, 10, 43, 0, 0) else none)
            else
              bif Nat.blt pc 139 then
                (bif Nat.beq pc 138 then some (.iload_n 3, 3, 0, 0, 0) else none)
              else
                bif Nat.beq pc 139 then some (.ireturn, 0, 0, 0, 0) else none
def i_M_numberAt : Nat → Option Ent := ab_tab 140 t_M_numberAt
def h_M_numberAt (pc : Nat) : Nat × List Bool := bif Nat.beq pc 28 then (1, [true, false, false, false, false]) else bif Nat.beq pc 51 then (1, [true, true, false, false, false]) else bif Nat.beq pc 74 then (1, [true, false, false, false, false]) else bif Nat.beq pc 94 then (1, [true, false, true, false, false]) else bif Nat.beq pc 98 then (1, [true, false, true, true, true]) else (0, [])
def s_M_numberAt (pc : Nat) : List (Int32 × Nat) × Nat := ([], 0)
noncomputable def eV_M_numberAt : Nat → List AV → Mm → Option Mm := ab_ev []
noncomputable def eI_M_numberAt : Nat → List AV → Mm → Option (Int32 × Mm) := ab_ev []
noncomputable def b_M_numberAt_0 (f : Nat) (v0 : Nat) (m : Mm) : Option Rs := ab_ex KT none s_M_numberAt eV_M_numberAt eI_M_numberAt i_M_numberAt h_M_numberAt f 0 [some (.inr (.inr (28, some v0))), none, none, none, none] [] m
noncomputable def b_M_numberAt_28 (f : Nat) (v0 : Nat) (u0 : Int32) (m : Mm) : Option Rs := ab_ex KT none s_M_numberAt eV_M_numberAt eI_M_numberAt i_M_numberAt h_M_numberAt f 28 [some (.inr (.inr (28, some v0))), none, none, none, none] [.inl u0] m
noncomputable def b_M_numberAt_51 (f : Nat) (v0 : Nat) (v1 : Int32) (u0 : Int32) (m : Mm) : Option Rs := ab_ex KT none s_M_numberAt eV_M_numberAt eI_M_numberAt i_M_numberAt h_M_numberAt f 51 [some (.inr (.inr (28, some v0))), some (.inl v1), none, none, none] [.inl u0] m
noncomputable def b_M_numberAt_74 (f : Nat) (v0 : Nat) (m : Mm) : Option Rs := ab_ex KT none s_M_numberAt eV_M_numberAt eI_M_numberAt i_M_numberAt h_M_numberAt f 74 [some (.inr (.inr (28, some v0))), none, none, none, none] [] m
noncomputable def b_M_numberAt_94 (f : Nat) (v0 : Nat) (v2 : Int32) (u0 : Int32) (m : Mm) : Option Rs := ab_ex KT none s_M_numberAt eV_M_numberAt eI_M_numberAt i_M_numberAt h_M_numberAt f 94 [some (.inr (.inr (28, some v0))), none, some (.inl v2), none, none] [.inl u0] m
noncomputable def b_M_numberAt_98 (f : Nat) (v0 : Nat) (v2 : Int32) (v3 : Int32) (v4 : Int32) (m : Mm) : Option Rs := ab_ex KT none s_M_numberAt eV_M_numberAt eI_M_numberAt i_M_numberAt h_M_numberAt f 98 [some (.inr (.inr (28, some v0))), none, some (.inl v2), some (.inl v3), some (.inl v4)] [] m
set_option maxRecDepth 100000 in
set_option maxHeartbeats 4000000 in
theorem b_M_numberAt_0_eq (f : Nat) (v0 : Nat) (m : Mm) : b_M_numberAt_0 (f + 1) v0 m =
    if ((m.1 123 v0 0) - (2 : Int32)) ≤ (m.1 124 v0 0) then
      b_M_numberAt_28 f v0 (255 : Int32) m
    else
      (ab_ix (m.1 124 v0 0) 48).bind fun i1 =>
      b_M_numberAt_28 f v0 (m.1 167 (v0 + 35) i1) m := rfl
set_option maxRecDepth 100000 in
set_option maxHeartbeats 4000000 in
theorem b_M_numberAt_28_eq (f : Nat) (v0 : Nat) (u0 : Int32) (m : Mm) : b_M_numberAt_28 (f + 1) v0 u0 m =
    if (64 : Int32) ≤ u0 then
      if (128 : Int32) ≤ u0 then
        b_M_numberAt_51 f v0 u0 (4 : Int32) m
      else
        b_M_numberAt_51 f v0 u0 (2 : Int32) m
    else
      b_M_numberAt_51 f v0 u0 (1 : Int32) m := rfl
set_option maxRecDepth 100000 in
set_option maxHeartbeats 4000000 in
theorem b_M_numberAt_51_eq (f : Nat) (v0 : Nat) (v1 : Int32) (u0 : Int32) (m : Mm) : b_M_numberAt_51 (f + 1) v0 v1 u0 m =
    if (192 : Int32) ≤ v1 then
      b_M_numberAt_74 f v0 m
    else
      if ((m.1 124 v0 0) + u0) ≤ ((m.1 123 v0 0) - (2 : Int32)) then
        if u0 = (1 : Int32) then
          b_M_numberAt_94 f v0 u0 v1 m
        else
          b_M_numberAt_94 f v0 u0 (v1 &&& (63 : Int32)) m
      else
        b_M_numberAt_74 f v0 m := rfl
set_option maxRecDepth 100000 in
set_option maxHeartbeats 4000000 in
theorem b_M_numberAt_74_eq (f : Nat) (v0 : Nat) (m : Mm) : b_M_numberAt_74 (f + 1) v0 m =
    (ab_bo (1 : Int32)).bind fun y2 =>
    ab_let (ab_uI m 127 v0 0 y2) fun m1 =>
    some (.inl (some (.inl (0 : Int32)), m1)) := rfl
set_option maxRecDepth 100000 in
set_option maxHeartbeats 4000000 in
theorem b_M_numberAt_94_eq (f : Nat) (v0 : Nat) (v2 : Int32) (u0 : Int32) (m : Mm) : b_M_numberAt_94 (f + 1) v0 v2 u0 m =
    b_M_numberAt_98 f v0 v2 u0 (1 : Int32) m := rfl
set_option maxRecDepth 100000 in
set_option maxHeartbeats 4000000 in
theorem b_M_numberAt_98_eq (f : Nat) (v0 : Nat) (v2 : Int32) (v3 : Int32) (v4 : Int32) (m : Mm) : b_M_numberAt_98 (f + 1) v0 v2 v3 v4 m =
    if v2 ≤ v4 then
      ab_let (ab_uI m 124 v0 0 ((m.1 124 v0 0) + v2)) fun m1 =>
      some (.inl (some (.inl v3), m1))
    else
      (ab_ix ((m.1 124 v0 0) + v4) 48).bind fun i2 =>
      ab_let (((v3 <<< ((8 : Int32) &&& 31)) ||| (m.1 167 (v0 + 35) i2))) fun x3 =>
      ab_let (v4 + (1 : Int32)) fun x4 =>
      b_M_numberAt_98 f v0 v2 x3 x4 m := rfl
noncomputable def r_M_numberAt : Nat → Mm → Option (Int32 × Mm) := ab_seal fun v0 m => ab_rI (b_M_numberAt_0 50000 v0 m)
theorem r_M_numberAt_eq (v0 : Nat) (m : Mm) : r_M_numberAt v0 m = ab_rI (b_M_numberAt_0 50000 v0 m) := by
  unfold r_M_numberAt
  rw [ab_seal_eq]
noncomputable def c_M_numberAt : List AV → Mm → Option (Int32 × Mm) := fun av m => match av with
  | [.inr (.inr (kv0, ov0))] => if kv0 = 28 then (ov0.bind fun v0 => r_M_numberAt v0 m) else none
  | _ => none
theorem c_M_numberAt_inv {av : List AV} {m : Mm} {r : Int32 × Mm} (h : c_M_numberAt av m = some r) : ∃ (v0 : Nat), av = [.inr (.inr (28, some v0))] ∧ r_M_numberAt v0 m = some r := by
  unfold c_M_numberAt at h
  split at h
  · rename_i kv0 ov0
    by_cases hkv0 : kv0 = 28
    case neg => rw [if_neg hkv0] at h; cases h
    rw [if_pos hkv0] at h
    subst hkv0
    obtain ⟨v0, hev0, h⟩ := Option.bind_eq_some_iff.mp h
    subst hev0
    exact ⟨v0, rfl, h⟩
  · cases h
def cs_M_numberAt : List Nat := []
set_option maxRecDepth 100000 in
theorem E_M_numberAt : ∀ (pc : Nat) (q : Ent), i_M_numberAt pc = some q → ab_E KT CL ab_gW "StreamTransportModel" "numberAt" (some .int) prog_12_method_29_code s_M_numberAt 5 pc q.1 q.2.1 q.2.2.1 q.2.2.2.1 q.2.2.2.2 := fun pc q hq =>
  ab_Eb_ok lc_M lj_M fl_M (fpn_M "numberAt") nw_M na_M nq_M (ab_tab_all (t := t_M_numberAt) (chk := fun pc q => ab_Eb (some .int) prog_12_method_29_code s_M_numberAt 5 LC_M LJ_M FL_M FPn_M NW_M NA_M NQ_M pc q.1 q.2.1 q.2.2.1 q.2.2.2.1 q.2.2.2.2) (by decide +kernel) hq)
set_option maxRecDepth 100000 in
theorem kp_M_numberAt {av : List AV} {m : Mm} {r : Int32 × Mm} (h : c_M_numberAt av m = some r) : ab_kp m r.2 := by
  obtain ⟨v0, -, h⟩ := c_M_numberAt_inv h
  rw [r_M_numberAt_eq] at h
  have hV : ∀ a av m m', eV_M_numberAt a av m = some m' → ab_kp m m' := ab_ev_all (P := fun _ m r => ab_kp m r) [] (fun q hq => by cases hq)
  have hI : ∀ a av m q, eI_M_numberAt a av m = some q → ab_kp m q.2 := ab_ev_all (P := fun _ (m : Mm) (r : Int32 × Mm) => ab_kp m r.2) [] (fun q hq => by cases hq)
  exact ab_kprel (ρ := .inl (some (.inl r.1), r.2)) (ab_tab_isn (t := t_M_numberAt) (by decide +kernel)) hV hI (ab_rI_inv h)
set_option maxRecDepth 100000 in
theorem cl_M_numberAt (l : Launch) : ∀ (pc : Nat) (q : Ent), i_M_numberAt pc = some q → ab_inv q.1 = true → ab_CR l KT CL none ab_gW "StreamTransportModel" prog_12_method_29_code 5 0 0 eV_M_numberAt eI_M_numberAt pc q := by
  intro pc q hq hi
  have hm : pc ∈ cs_M_numberAt := ab_tab_cs (t := t_M_numberAt) (by decide +kernel) hq hi
  cases hm
theorem cw_M_numberAt : ab_cw y_M_numberAt prog_12_method_29_code 5 0 (some .int) := ⟨ab_gW_in 1276 (by decide +kernel) rfl, ab_gW_in 71 (by decide +kernel) rfl, by decide +kernel, by decide +kernel, by decide +kernel⟩
theorem is_M_numberAt : Cond.instanceMethod y_M_numberAt ∈ ab_gW := ab_gW_in 1275 (by decide +kernel) rfl
theorem sl_M_numberAt : Cond.selects "StreamTransportModel" y_M_numberAt y_M_numberAt ∈ ab_gW := ab_gW_in 52 (by decide +kernel) rfl
set_option maxRecDepth 100000 in
theorem cm_M_numberAt (l : Launch) {av : List AV} {m : Mm} {r : Int32 × Mm} (h0 : c_M_numberAt av m = some r) : ∃ (k q : Nat) (av' : List AV) (ci : Nat) (fs : List (Nat × Nat × Nat × Nat)) (z : vw_C), av = .inr (.inr (k, some q)) :: av' ∧ av'.length = 0 ∧ k ≠ 0 ∧ KT[k]? = some (.inl (ci, fs)) ∧ CL[ci]? = some z ∧ z.1 = "StreamTransportModel" ∧ ab_nos av' ∧ ab_Met l KT CL y_M_numberAt (Cond.code y_M_numberAt prog_12_method_29_code 5 (some .int) :: ab_gW) 0 0 none av m (some (.inl r.1)) r.2 := by
  obtain ⟨v0, hav, h⟩ := c_M_numberAt_inv h0
  rw [r_M_numberAt_eq] at h
  have hmo : ab_mo m r.2 := ab_kp_mo (kp_M_numberAt h0)
  subst hav
  exact ⟨_, _, _, _, _, _, rfl, rfl, by decide, rfl, rfl, rfl, (by intro v hv q e; subst e; simp at hv), ab_met (by decide +kernel) KT_0 KT_nd KT_k3 E_M_numberAt (cl_M_numberAt l) hmo (Nat.le_of_ble_eq_true rfl) (ab_rI_inv h) (fun v hv => by cases hv; exact ⟨_, rfl⟩)⟩
/-! StreamTransportModel.fullNumber(II)I -/
def y_M_fullNumber : MethodName := ⟨"StreamTransportModel", "fullNumber", "(II)I"⟩
def t_M_fullNumber (pc : Nat) : Option Ent :=
  bif Nat.blt pc 17 then
    (bif Nat.blt pc 9 then
      (bif Nat.blt pc 5 then
        (bif Nat.blt pc 1 then
          (bif Nat.beq pc 0 then some (.aload_n 0, 0, 0, 0, 0) else none)
        else
          bif Nat.blt pc 4 then
            (bif Nat.beq pc 1 then some (.getfield 68, 10, 23, 1, 0) else none)
          else
            bif Nat.beq pc 4 then some (.iload_n 1, 1, 0, 0, 0) else none)
      else
        bif Nat.blt pc 7 then
          (bif Nat.blt pc 6 then
            (bif Nat.beq pc 5 then some (.iaload, 0, 0, 0, 0) else none)
          else
            bif Nat.beq pc 6 then some (.iconst 1, 0, 0, 0, 1) else none)
        else
          bif Nat.blt pc 8 then
            (bif Nat.beq pc 7 then some (.iadd, 0, 0, 0, 0) else none)
          else
            bif Nat.beq pc 8 then some (.istore_n 3, 3, 0, 0, 0) else none)
    else
      bif Nat.blt pc 12 then
        (bif Nat.blt pc 10 then
          (bif Nat.beq pc 9 then some (.iload_n 3, 3, 0, 0, 0) else none)
        else
          bif Nat.blt pc 11 then
            (bif Nat.beq pc 10 then some (.iload_n 2, 2, 0, 0, 0) else none)
          else
            bif Nat.beq pc 11 then some (.iload_n 3, 3, 0, 0, 0) else none)
      else
        bif Nat.blt pc 15 then
          (bif Nat.blt pc 13 then
            (bif Nat.beq pc 12 then some (.isub, 0, 0, 0, 0) else none)
          else
            bif Nat.beq pc 13 then some (.bipush 15, 0, 0, 0, 15) else none)
        else
          bif Nat.blt pc 16 then
            (bif Nat.beq pc 15 then some (.iand, 0, 0, 0, 0) else none)
          else
            bif Nat.beq pc 16 then some (.iadd, 0, 0, 0, 0) else none)
  else
    bif Nat.blt pc 30 then
      (bif Nat.blt pc 22 then
        (bif Nat.blt pc 19 then
          (bif Nat.beq pc 17 then some (.istore 4, 4, 0, 0, 0) else none)
        else
          bif Nat.blt pc 21 then
            (bif Nat.beq pc 19 then some (.iload 4, 4, 0, 0, 0) else none)
          else
            bif Nat.beq pc 21 then some (.iload_n 3, 3, 0, 0, 0) else none)
      else
        bif Nat.blt pc 25 then
          (bif Nat.blt pc 23 then
            (bif Nat.beq pc 22 then some (.isub, 0, 0, 0, 0) else none)
          else
            bif Nat.beq pc 23 then some (.bipush 8, 0, 0, 0, 8) else none)
        else
          bif Nat.blt pc 28 then
            (bif Nat.beq pc 25 then some (.if_icmp .le (18), 43, 0, 0, 0) else none)
          else
            bif Nat.beq pc 28 then some (.iload 4, 4, 0, 0, 0) else none)
    else
      bif Nat.blt pc 39 then
        (bif Nat.blt pc 35 then
          (bif Nat.blt pc 32 then
            (bif Nat.beq pc 30 then some (.bipush 16, 0, 0, 0, 16) else none)
          else
            bif Nat.beq pc 32 then some (.if_icmp .lt (11), 43, 0, 0, 0) else none)
        else
          bif Nat.blt pc 37 then
            (bif Nat.beq pc 35 then some (.iload 4, 4, 0, 0, 0) else none)
          else
            bif Nat.beq pc 37 then some (.bipush 16, 0, 0, 0, 16) else none)
      else
        bif Nat.blt pc 43 then
          (bif Nat.blt pc 40 then
            (bif Nat.beq pc 39 then some (.isub, 0, 0, 0, 0) else none)
          else
            bif Nat.beq pc 40 then some (.goto 5, 45, 0, 0, 0) else none)
        else
          bif Nat.blt pc 45 then
            (bif Nat.beq pc 43 then some (.iload 4, 4, 0, 0, 0) else none)
          else
            bif Nat.beq pc 45 then some (.ireturn, 0, 0, 0, 0) else none
def i_M_fullNumber : Nat → Option Ent := ab_tab 46 t_M_fullNumber
def h_M_fullNumber (pc : Nat) : Nat × List Bool := (0, [])
def s_M_fullNumber (pc : Nat) : List (Int32 × Nat) × Nat := ([], 0)
noncomputable def eV_M_fullNumber : Nat → List AV → Mm → Option Mm := ab_ev []
noncomputable def eI_M_fullNumber : Nat → List AV → Mm → Option (Int32 × Mm) := ab_ev []
noncomputable def b_M_fullNumber_0 (f : Nat) (v0 : Nat) (v1 : Int32) (v2 : Int32) (m : Mm) : Option Rs := ab_ex KT none s_M_fullNumber eV_M_fullNumber eI_M_fullNumber i_M_fullNumber h_M_fullNumber f 0 [some (.inr (.inr (28, some v0))), some (.inl v1), some (.inl v2), none, none] [] m
set_option maxRecDepth 100000 in
set_option maxHeartbeats 4000000 in
theorem b_M_fullNumber_0_eq (f : Nat) (v0 : Nat) (v1 : Int32) (v2 : Int32) (m : Mm) : b_M_fullNumber_0 (f + 1) v0 v1 v2 m =
    (ab_ix v1 2).bind fun i1 =>
    ab_let (((m.1 152 (v0 + 20) i1) + (1 : Int32))) fun x2 =>
    ab_let ((x2 + ((v2 - x2) &&& (15 : Int32)))) fun x3 =>
    if (x3 - x2) ≤ (8 : Int32) then
      some (.inl (some (.inl x3), m))
    else
      if x3 < (16 : Int32) then
        some (.inl (some (.inl x3), m))
      else
        some (.inl (some (.inl (x3 - (16 : Int32))), m)) := rfl
noncomputable def r_M_fullNumber : Nat → Int32 → Int32 → Mm → Option (Int32 × Mm) := ab_seal fun v0 v1 v2 m => ab_rI (b_M_fullNumber_0 50000 v0 v1 v2 m)
theorem r_M_fullNumber_eq (v0 : Nat) (v1 : Int32) (v2 : Int32) (m : Mm) : r_M_fullNumber v0 v1 v2 m = ab_rI (b_M_fullNumber_0 50000 v0 v1 v2 m) := by
  unfold r_M_fullNumber
  rw [ab_seal_eq]
noncomputable def c_M_fullNumber : List AV → Mm → Option (Int32 × Mm) := fun av m => match av with
  | [.inr (.inr (kv0, ov0)), .inl v1, .inl v2] => if kv0 = 28 then (ov0.bind fun v0 => r_M_fullNumber v0 v1 v2 m) else none
  | _ => none
theorem c_M_fullNumber_inv {av : List AV} {m : Mm} {r : Int32 × Mm} (h : c_M_fullNumber av m = some r) : ∃ (v0 : Nat) (v1 : Int32) (v2 : Int32), av = [.inr (.inr (28, some v0)), .inl v1, .inl v2] ∧ r_M_fullNumber v0 v1 v2 m = some r := by
  unfold c_M_fullNumber at h
  split at h
  · rename_i kv0 ov0 v1 v2
    by_cases hkv0 : kv0 = 28
    case neg => rw [if_neg hkv0] at h; cases h
    rw [if_pos hkv0] at h
    subst hkv0
    obtain ⟨v0, hev0, h⟩ := Option.bind_eq_some_iff.mp h
    subst hev0
    exact ⟨v0, v1, v2, rfl, h⟩
  · cases h
def cs_M_fullNumber : List Nat := []
set_option maxRecDepth 100000 in
theorem E_M_fullNumber : ∀ (pc : Nat) (q : Ent), i_M_fullNumber pc = some q → ab_E KT CL ab_gW "StreamTransportModel" "fullNumber" (some .int) prog_12_method_30_code s_M_fullNumber 5 pc q.1 q.2.1 q.2.2.1 q.2.2.2.1 q.2.2.2.2 := fun pc q hq =>
  ab_Eb_ok lc_M lj_M fl_M (fpn_M "fullNumber") nw_M na_M nq_M (ab_tab_all (t := t_M_fullNumber) (chk := fun pc q => ab_Eb (some .int) prog_12_method_30_code s_M_fullNumber 5 LC_M LJ_M FL_M FPn_M NW_M NA_M NQ_M pc q.1 q.2.1 q.2.2.1 q.2.2.2.1 q.2.2.2.2) (by decide +kernel) hq)
set_option maxRecDepth 100000 in
theorem kp_M_fullNumber {av : List AV} {m : Mm} {r : Int32 × Mm} (h : c_M_fullNumber av m = some r) : ab_kp m r.2 := by
  obtain ⟨v0, v1, v2, -, h⟩ := c_M_fullNumber_inv h
  rw [r_M_fullNumber_eq] at h
  have hV : ∀ a av m m', eV_M_fullNumber a av m = some m' → ab_kp m m' := ab_ev_all (P := fun _ m r => ab_kp m r) [] (fun q hq => by cases hq)
  have hI : ∀ a av m q, eI_M_fullNumber a av m = some q → ab_kp m q.2 := ab_ev_all (P := fun _ (m : Mm) (r : Int32 × Mm) => ab_kp m r.2) [] (fun q hq => by cases hq)
  exact ab_kprel (ρ := .inl (some (.inl r.1), r.2)) (ab_tab_isn (t := t_M_fullNumber) (by decide +kernel)) hV hI (ab_rI_inv h)
set_option maxRecDepth 100000 in
theorem cl_M_fullNumber (l : Launch) : ∀ (pc : Nat) (q : Ent), i_M_fullNumber pc = some q → ab_inv q.1 = true → ab_CR l KT CL none ab_gW "StreamTransportModel" prog_12_method_30_code 5 0 0 eV_M_fullNumber eI_M_fullNumber pc q := by
  intro pc q hq hi
  have hm : pc ∈ cs_M_fullNumber := ab_tab_cs (t := t_M_fullNumber) (by decide +kernel) hq hi
  cases hm
theorem cw_M_fullNumber : ab_cw y_M_fullNumber prog_12_method_30_code 5 2 (some .int) := ⟨ab_gW_in 1263 (by decide +kernel) rfl, ab_gW_in 71 (by decide +kernel) rfl, by decide +kernel, by decide +kernel, by decide +kernel⟩
theorem is_M_fullNumber : Cond.instanceMethod y_M_fullNumber ∈ ab_gW := ab_gW_in 1262 (by decide +kernel) rfl
theorem sl_M_fullNumber : Cond.selects "StreamTransportModel" y_M_fullNumber y_M_fullNumber ∈ ab_gW := ab_gW_in 49 (by decide +kernel) rfl
set_option maxRecDepth 100000 in
theorem cm_M_fullNumber (l : Launch) {av : List AV} {m : Mm} {r : Int32 × Mm} (h0 : c_M_fullNumber av m = some r) : ∃ (k q : Nat) (av' : List AV) (ci : Nat) (fs : List (Nat × Nat × Nat × Nat)) (z : vw_C), av = .inr (.inr (k, some q)) :: av' ∧ av'.length = 2 ∧ k ≠ 0 ∧ KT[k]? = some (.inl (ci, fs)) ∧ CL[ci]? = some z ∧ z.1 = "StreamTransportModel" ∧ ab_nos av' ∧ ab_Met l KT CL y_M_fullNumber (Cond.code y_M_fullNumber prog_12_method_30_code 5 (some .int) :: ab_gW) 0 0 none av m (some (.inl r.1)) r.2 := by
  obtain ⟨v0, v1, v2, hav, h⟩ := c_M_fullNumber_inv h0
  rw [r_M_fullNumber_eq] at h
  have hmo : ab_mo m r.2 := ab_kp_mo (kp_M_fullNumber h0)
  subst hav
  exact ⟨_, _, _, _, _, _, rfl, rfl, by decide, rfl, rfl, rfl, (by intro v hv q e; subst e; simp at hv), ab_met (by decide +kernel) KT_0 KT_nd KT_k3 E_M_fullNumber (cl_M_fullNumber l) hmo (Nat.le_of_ble_eq_true rfl) (ab_rI_inv h) (fun v hv => by cases hv; exact ⟨_, rfl⟩)⟩
/-! StreamTransportModel.isBeyond(III)Z -/
def y_M_isBeyond : MethodName := ⟨"StreamTransportModel", "isBeyond", "(III)Z"⟩
def t_M_isBeyond (pc : Nat) : Option Ent :=
  bif Nat.blt pc 32 then
    (bif Nat.blt pc 13 then
      (bif Nat.blt pc 6 then
        (bif Nat.blt pc 2 then
          (bif Nat.blt pc 1 then
            (bif Nat.beq pc 0 then some (.iload_n 3, 3, 0, 0, 0) else none)
          else
            bif Nat.beq pc 1 then some (.i2l, 0, 0, 0, 0) else none)
        else
          bif Nat.blt pc 4 then
            (bif Nat.beq pc 2 then some (.lstore 4, 4, 0, 0, 0) else none)
          else
            bif Nat.blt pc 5 then
              (bif Nat.beq pc 4 then some (.iconst 4, 0, 0, 0, 4) else none)
            else
              bif Nat.beq pc 5 then some (.iload_n 1, 1, 0, 0, 0) else none)
      else
        bif Nat.blt pc 9 then
          (bif Nat.blt pc 7 then
            (bif Nat.beq pc 6 then some (.imul, 0, 0, 0, 0) else none)
          else
            bif Nat.beq pc 7 then some (.istore 6, 6, 0, 0, 0) else none)
        else
          bif Nat.blt pc 11 then
            (bif Nat.beq pc 9 then some (.iload 6, 6, 0, 0, 0) else none)
          else
            bif Nat.blt pc 12 then
              (bif Nat.beq pc 11 then some (.iconst 4, 0, 0, 0, 4) else none)
            else
              bif Nat.beq pc 12 then some (.iload_n 1, 1, 0, 0, 0) else none)
    else
      bif Nat.blt pc 21 then
        (bif Nat.blt pc 15 then
          (bif Nat.blt pc 14 then
            (bif Nat.beq pc 13 then some (.imul, 0, 0, 0, 0) else none)
          else
            bif Nat.beq pc 14 then some (.iconst 4, 0, 0, 0, 4) else none)
        else
          bif Nat.blt pc 16 then
            (bif Nat.beq pc 15 then some (.iadd, 0, 0, 0, 0) else none)
          else
            bif Nat.blt pc 19 then
              (bif Nat.beq pc 16 then some (.if_icmp .ge (33), 49, 0, 0, 0) else none)
            else
              bif Nat.beq pc 19 then some (.iload 6, 6, 0, 0, 0) else none)
      else
        bif Nat.blt pc 25 then
          (bif Nat.blt pc 22 then
            (bif Nat.beq pc 21 then some (.iload_n 2, 2, 0, 0, 0) else none)
          else
            bif Nat.beq pc 22 then some (.if_icmp .ne (8), 30, 0, 0, 0) else none)
        else
          bif Nat.blt pc 27 then
            (bif Nat.beq pc 25 then some (.lload 4, 4, 0, 0, 0) else none)
          else
            bif Nat.blt pc 30 then
              (bif Nat.beq pc 27 then some (.goto 14, 41, 0, 0, 0) else none)
            else
              bif Nat.beq pc 30 then some (.lload 4, 4, 0, 0, 0) else none)
  else
    bif Nat.blt pc 51 then
      (bif Nat.blt pc 40 then
        (bif Nat.blt pc 36 then
          (bif Nat.blt pc 33 then
            (bif Nat.beq pc 32 then some (.aload_n 0, 0, 0, 0, 0) else none)
          else
            bif Nat.beq pc 33 then some (.getfield 41, 10, 14, 1, 0) else none)
        else
          bif Nat.blt pc 38 then
            (bif Nat.beq pc 36 then some (.iload 6, 6, 0, 0, 0) else none)
          else
            bif Nat.blt pc 39 then
              (bif Nat.beq pc 38 then some (.iaload, 0, 0, 0, 0) else none)
            else
              bif Nat.beq pc 39 then some (.i2l, 0, 0, 0, 0) else none)
      else
        bif Nat.blt pc 43 then
          (bif Nat.blt pc 41 then
            (bif Nat.beq pc 40 then some (.ladd, 0, 0, 0, 0) else none)
          else
            bif Nat.beq pc 41 then some (.lstore 4, 4, 0, 0, 0) else none)
        else
          bif Nat.blt pc 46 then
            (bif Nat.beq pc 43 then some (.iinc 6 1, 6, 0, 0, 1) else none)
          else
            bif Nat.blt pc 49 then
              (bif Nat.beq pc 46 then some (.goto (-37), 9, 0, 0, 0) else none)
            else
              bif Nat.beq pc 49 then some (.lload 4, 4, 0, 0, 0) else none)
    else
      bif Nat.blt pc 58 then
        (bif Nat.blt pc 55 then
          (bif Nat.blt pc 52 then
            (bif Nat.beq pc 51 then some (.aload_n 0, 0, 0, 0, 0) else none)
          else
            bif Nat.beq pc 52 then some (.getfield 62, 10, 21, 1, 0) else none)
        else
          bif Nat.blt pc 56 then
            (bif Nat.beq pc 55 then some (.iload_n 1, 1, 0, 0, 0) else none)
          else
            bif Nat.blt pc 57 then
              (bif Nat.beq pc 56 then some (.iaload, 0, 0, 0, 0) else none)
            else
              bif Nat.beq pc 57 then some (.i2l, 0, 0, 0, 0) else none)
      else
        bif Nat.blt pc 63 then
          (bif Nat.blt pc 59 then
            (bif Nat.beq pc 58 then some (.lcmp, 0, 0, 0, 0) else none)
          else
            bif Nat.blt pc 62 then
              (bif Nat.beq pc 59 then some (.ifCond .le (7), 66, 0, 0, 0) else none)
            else
              bif Nat.beq pc 62 then some (.iconst 1, 0, 0, 0, 1) else none)
        else
          bif Nat.blt pc 66 then
            (bif Nat.beq pc 63 then some (.goto 4, 67, 0, 0, 0) else none)
          else
            bif Nat.blt pc 67 then
              (bif Nat.beq pc 66 then some (.iconst 0, 0, 0, 0, 0) else none)
            else
              bif Nat.beq pc 67 then some (.ireturn, 0, 0, 1, 0) else none
def i_M_isBeyond : Nat → Option Ent := ab_tab 68 t_M_isBeyond
def h_M_isBeyond (pc : Nat) : Nat × List Bool := bif Nat.beq pc 9 then (1, [true, true, true, false, true, false, true]) else bif Nat.beq pc 41 then (1, [true, true, true, false, false, false, true]) else (0, [])
def s_M_isBeyond (pc : Nat) : List (Int32 × Nat) × Nat := ([], 0)
noncomputable def eV_M_isBeyond : Nat → List AV → Mm → Option Mm := ab_ev []
noncomputable def eI_M_isBeyond : Nat → List AV → Mm → Option (Int32 × Mm) := ab_ev []
noncomputable def b_M_isBeyond_0 (f : Nat) (v0 : Nat) (v1 : Int32) (v2 : Int32) (v3 : Int32) (m : Mm) : Option Rs := ab_ex KT none s_M_isBeyond eV_M_isBeyond eI_M_isBeyond i_M_isBeyond h_M_isBeyond f 0 [some (.inr (.inr (28, some v0))), some (.inl v1), some (.inl v2), some (.inl v3), none, none, none] [] m
noncomputable def b_M_isBeyond_9 (f : Nat) (v0 : Nat) (v1 : Int32) (v2 : Int32) (v4 : Int64) (v6 : Int32) (m : Mm) : Option Rs := ab_ex KT none s_M_isBeyond eV_M_isBeyond eI_M_isBeyond i_M_isBeyond h_M_isBeyond f 9 [some (.inr (.inr (28, some v0))), some (.inl v1), some (.inl v2), none, some (.inr (.inl v4)), none, some (.inl v6)] [] m
noncomputable def b_M_isBeyond_41 (f : Nat) (v0 : Nat) (v1 : Int32) (v2 : Int32) (v6 : Int32) (u0 : Int64) (m : Mm) : Option Rs := ab_ex KT none s_M_isBeyond eV_M_isBeyond eI_M_isBeyond i_M_isBeyond h_M_isBeyond f 41 [some (.inr (.inr (28, some v0))), some (.inl v1), some (.inl v2), none, none, none, some (.inl v6)] [.inr (.inl u0)] m
set_option maxRecDepth 100000 in
set_option maxHeartbeats 4000000 in
theorem b_M_isBeyond_0_eq (f : Nat) (v0 : Nat) (v1 : Int32) (v2 : Int32) (v3 : Int32) (m : Mm) : b_M_isBeyond_0 (f + 1) v0 v1 v2 v3 m =
    ab_let ((v3).toInt64) fun w1 =>
    ab_let (((4 : Int32) * v1)) fun x2 =>
    b_M_isBeyond_9 f v0 v1 v2 w1 x2 m := rfl
set_option maxRecDepth 100000 in
set_option maxHeartbeats 4000000 in
theorem b_M_isBeyond_9_eq (f : Nat) (v0 : Nat) (v1 : Int32) (v2 : Int32) (v4 : Int64) (v6 : Int32) (m : Mm) : b_M_isBeyond_9 (f + 1) v0 v1 v2 v4 v6 m =
    if (((4 : Int32) * v1) + (4 : Int32)) ≤ v6 then
      (ab_ix v1 2).bind fun i1 =>
      if (lg_cmp v4 (((m.1 150 (v0 + 18) i1)).toInt64)) ≤ 0 then
        (ab_bo (0 : Int32)).bind fun y2 => some (.inl (some (.inl y2), m))
      else
        (ab_bo (1 : Int32)).bind fun y3 => some (.inl (some (.inl y3), m))
    else
      if v6 = v2 then
        b_M_isBeyond_41 f v0 v1 v2 v6 v4 m
      else
        (ab_ix v6 8).bind fun i4 =>
        b_M_isBeyond_41 f v0 v1 v2 v6 (v4 + ((m.1 143 (v0 + 11) i4)).toInt64) m := rfl
set_option maxRecDepth 100000 in
set_option maxHeartbeats 4000000 in
theorem b_M_isBeyond_41_eq (f : Nat) (v0 : Nat) (v1 : Int32) (v2 : Int32) (v6 : Int32) (u0 : Int64) (m : Mm) : b_M_isBeyond_41 (f + 1) v0 v1 v2 v6 u0 m =
    ab_let (v6 + (1 : Int32)) fun x1 =>
    b_M_isBeyond_9 f v0 v1 v2 u0 x1 m := rfl
noncomputable def r_M_isBeyond : Nat → Int32 → Int32 → Int32 → Mm → Option (Int32 × Mm) := ab_seal fun v0 v1 v2 v3 m => ab_rI (b_M_isBeyond_0 50000 v0 v1 v2 v3 m)
theorem r_M_isBeyond_eq (v0 : Nat) (v1 : Int32) (v2 : Int32) (v3 : Int32) (m : Mm) : r_M_isBeyond v0 v1 v2 v3 m = ab_rI (b_M_isBeyond_0 50000 v0 v1 v2 v3 m) := by
  unfold r_M_isBeyond
  rw [ab_seal_eq]
noncomputable def c_M_isBeyond : List AV → Mm → Option (Int32 × Mm) := fun av m => match av with
  | [.inr (.inr (kv0, ov0)), .inl v1, .inl v2, .inl v3] => if kv0 = 28 then (ov0.bind fun v0 => r_M_isBeyond v0 v1 v2 v3 m) else none
  | _ => none
theorem c_M_isBeyond_inv {av : List AV} {m : Mm} {r : Int32 × Mm} (h : c_M_isBeyond av m = some r) : ∃ (v0 : Nat) (v1 : Int32) (v2 : Int32) (v3 : Int32), av = [.inr (.inr (28, some v0)), .inl v1, .inl v2, .inl v3] ∧ r_M_isBeyond v0 v1 v2 v3 m = some r := by
  unfold c_M_isBeyond at h
  split at h
  · rename_i kv0 ov0 v1 v2 v3
    by_cases hkv0 : kv0 = 28
    case neg => rw [if_neg hkv0] at h; cases h
    rw [if_pos hkv0] at h
    subst hkv0
    obtain ⟨v0, hev0, h⟩ := Option.bind_eq_some_iff.mp h
    subst hev0
    exact ⟨v0, v1, v2, v3, rfl, h⟩
  · cases h
def cs_M_isBeyond : List Nat := []
set_option maxRecDepth 100000 in
theorem E_M_isBeyond : ∀ (pc : Nat) (q : Ent), i_M_isBeyond pc = some q → ab_E KT CL ab_gW "StreamTransportModel" "isBeyond" (some .boolean) prog_12_method_33_code s_M_isBeyond 7 pc q.1 q.2.1 q.2.2.1 q.2.2.2.1 q.2.2.2.2 := fun pc q hq =>
  ab_Eb_ok lc_M lj_M fl_M (fpn_M "isBeyond") nw_M na_M nq_M (ab_tab_all (t := t_M_isBeyond) (chk := fun pc q => ab_Eb (some .boolean) prog_12_method_33_code s_M_isBeyond 7 LC_M LJ_M FL_M FPn_M NW_M NA_M NQ_M pc q.1 q.2.1 q.2.2.1 q.2.2.2.1 q.2.2.2.2) (by decide +kernel) hq)
set_option maxRecDepth 100000 in
theorem kp_M_isBeyond {av : List AV} {m : Mm} {r : Int32 × Mm} (h : c_M_isBeyond av m = some r) : ab_kp m r.2 := by
  obtain ⟨v0, v1, v2, v3, -, h⟩ := c_M_isBeyond_inv h
  rw [r_M_isBeyond_eq] at h
  have hV : ∀ a av m m', eV_M_isBeyond a av m = some m' → ab_kp m m' := ab_ev_all (P := fun _ m r => ab_kp m r) [] (fun q hq => by cases hq)
  have hI : ∀ a av m q, eI_M_isBeyond a av m = some q → ab_kp m q.2 := ab_ev_all (P := fun _ (m : Mm) (r : Int32 × Mm) => ab_kp m r.2) [] (fun q hq => by cases hq)
  exact ab_kprel (ρ := .inl (some (.inl r.1), r.2)) (ab_tab_isn (t := t_M_isBeyond) (by decide +kernel)) hV hI (ab_rI_inv h)
set_option maxRecDepth 100000 in
theorem cl_M_isBeyond (l : Launch) : ∀ (pc : Nat) (q : Ent), i_M_isBeyond pc = some q → ab_inv q.1 = true → ab_CR l KT CL none ab_gW "StreamTransportModel" prog_12_method_33_code 7 0 0 eV_M_isBeyond eI_M_isBeyond pc q := by
  intro pc q hq hi
  have hm : pc ∈ cs_M_isBeyond := ab_tab_cs (t := t_M_isBeyond) (by decide +kernel) hq hi
  cases hm
theorem cw_M_isBeyond : ab_cw y_M_isBeyond prog_12_method_33_code 7 3 (some .boolean) := ⟨ab_gW_in 1293 (by decide +kernel) rfl, ab_gW_in 71 (by decide +kernel) rfl, by decide +kernel, by decide +kernel, by decide +kernel⟩
theorem is_M_isBeyond : Cond.instanceMethod y_M_isBeyond ∈ ab_gW := ab_gW_in 1292 (by decide +kernel) rfl
theorem sl_M_isBeyond : Cond.selects "StreamTransportModel" y_M_isBeyond y_M_isBeyond ∈ ab_gW := ab_gW_in 56 (by decide +kernel) rfl
set_option maxRecDepth 100000 in
theorem cm_M_isBeyond (l : Launch) {av : List AV} {m : Mm} {r : Int32 × Mm} (h0 : c_M_isBeyond av m = some r) : ∃ (k q : Nat) (av' : List AV) (ci : Nat) (fs : List (Nat × Nat × Nat × Nat)) (z : vw_C), av = .inr (.inr (k, some q)) :: av' ∧ av'.length = 3 ∧ k ≠ 0 ∧ KT[k]? = some (.inl (ci, fs)) ∧ CL[ci]? = some z ∧ z.1 = "StreamTransportModel" ∧ ab_nos av' ∧ ab_Met l KT CL y_M_isBeyond (Cond.code y_M_isBeyond prog_12_method_33_code 7 (some .boolean) :: ab_gW) 0 0 none av m (some (.inl r.1)) r.2 := by
  obtain ⟨v0, v1, v2, v3, hav, h⟩ := c_M_isBeyond_inv h0
  rw [r_M_isBeyond_eq] at h
  have hmo : ab_mo m r.2 := ab_kp_mo (kp_M_isBeyond h0)
  subst hav
  exact ⟨_, _, _, _, _, _, rfl, rfl, by decide, rfl, rfl, rfl, (by intro v hv q e; subst e; simp at hv), ab_met (by decide +kernel) KT_0 KT_nd KT_k3 E_M_isBeyond (cl_M_isBeyond l) hmo (Nat.le_of_ble_eq_true rfl) (ab_rI_inv h) (fun v hv => by cases hv; exact ⟨_, rfl⟩)⟩
/-! StreamTransportModel.segment(III)I -/
def y_M_segment : MethodName := ⟨"StreamTransportModel", "segment", "(III)I"⟩
def t_M_segment (pc : Nat) : Option Ent :=
  bif Nat.blt pc 145 then
    (bif Nat.blt pc 66 then
      (bif Nat.blt pc 36 then
        (bif Nat.blt pc 16 then
          (bif Nat.blt pc 9 then
            (bif Nat.blt pc 4 then
              (bif Nat.blt pc 1 then
                (bif Nat.beq pc 0 then some (.aload_n 0, 0, 0, 0, 0) else none)
              else
                bif Nat.beq pc 1 then some (.invokevirtual 240, 129, 1, 1, 0) else none)
            else
              bif Nat.blt pc 6 then
                (bif Nat.beq pc 4 then some (.istore 4, 4, 0, 0, 0) else none)
              else
                bif Nat.blt pc 8 then
                  (bif Nat.beq pc 6 then some (.iload 4, 4, 0, 0, 0) else none)
                else
                  bif Nat.beq pc 8 then some (.iconst 2, 0, 0, 0, 2) else none)
          else
            bif Nat.blt pc 12 then
              (bif Nat.blt pc 10 then
                (bif Nat.beq pc 9 then some (.idiv, 0, 0, 0, 0) else none)
              else
                bif Nat.beq pc 10 then some (.istore 5, 5, 0, 0, 0) else none)
            else
              bif Nat.blt pc 14 then
                (bif Nat.beq pc 12 then some (.iload 4, 4, 0, 0, 0) else none)
              else
                bif Nat.blt pc 15 then
                  (bif Nat.beq pc 14 then some (.iconst 2, 0, 0, 0, 2) else none)
                else
                  bif Nat.beq pc 15 then some (.irem, 0, 0, 0, 0) else none)
        else
          bif Nat.blt pc 25 then
            (bif Nat.blt pc 20 then
              (bif Nat.blt pc 17 then
                (bif Nat.beq pc 16 then some (.iconst 1, 0, 0, 0, 1) else none)
              else
                bif Nat.beq pc 17 then some (.if_icmp .ne (7), 24, 0, 0, 0) else none)
            else
              bif Nat.blt pc 21 then
                (bif Nat.beq pc 20 then some (.iconst 1, 0, 0, 0, 1) else none)
              else
                bif Nat.blt pc 24 then
                  (bif Nat.beq pc 21 then some (.goto 4, 25, 0, 0, 0) else none)
                else
                  bif Nat.beq pc 24 then some (.iconst 0, 0, 0, 0, 0) else none)
          else
            bif Nat.blt pc 28 then
              (bif Nat.blt pc 27 then
                (bif Nat.beq pc 25 then some (.istore 6, 6, 0, 0, 0) else none)
              else
                bif Nat.beq pc 27 then some (.aload_n 0, 0, 0, 0, 0) else none)
            else
              bif Nat.blt pc 31 then
                (bif Nat.beq pc 28 then some (.getfield 226, 10, 46, 0, 0) else none)
              else
                bif Nat.blt pc 34 then
                  (bif Nat.beq pc 31 then some (.ifCond .ne (19), 50, 0, 0, 0) else none)
                else
                  bif Nat.beq pc 34 then some (.iload 5, 5, 0, 0, 0) else none)
      else
        bif Nat.blt pc 52 then
          (bif Nat.blt pc 43 then
            (bif Nat.blt pc 40 then
              (bif Nat.blt pc 37 then
                (bif Nat.beq pc 36 then some (.aload_n 0, 0, 0, 0, 0) else none)
              else
                bif Nat.beq pc 37 then some (.getfield 223, 10, 42, 0, 0) else none)
            else
              bif Nat.blt pc 41 then
                (bif Nat.beq pc 40 then some (.iconst 2, 0, 0, 0, 2) else none)
              else
                bif Nat.blt pc 42 then
                  (bif Nat.beq pc 41 then some (.isub, 0, 0, 0, 0) else none)
                else
                  bif Nat.beq pc 42 then some (.aload_n 0, 0, 0, 0, 0) else none)
          else
            bif Nat.blt pc 47 then
              (bif Nat.blt pc 46 then
                (bif Nat.beq pc 43 then some (.getfield 220, 10, 43, 0, 0) else none)
              else
                bif Nat.beq pc 46 then some (.isub, 0, 0, 0, 0) else none)
            else
              bif Nat.blt pc 50 then
                (bif Nat.beq pc 47 then some (.if_icmp .le (5), 52, 0, 0, 0) else none)
              else
                bif Nat.blt pc 51 then
                  (bif Nat.beq pc 50 then some (.iconst 1, 0, 0, 0, 1) else none)
                else
                  bif Nat.beq pc 51 then some (.ireturn, 0, 0, 0, 0) else none)
        else
          bif Nat.blt pc 59 then
            (bif Nat.blt pc 54 then
              (bif Nat.blt pc 53 then
                (bif Nat.beq pc 52 then some (.iload_n 2, 2, 0, 0, 0) else none)
              else
                bif Nat.beq pc 53 then some (.iconst 3, 0, 0, 0, 3) else none)
            else
              bif Nat.blt pc 57 then
                (bif Nat.beq pc 54 then some (.if_icmp .le (5), 59, 0, 0, 0) else none)
              else
                bif Nat.blt pc 58 then
                  (bif Nat.beq pc 57 then some (.iconst 2, 0, 0, 0, 2) else none)
                else
                  bif Nat.beq pc 58 then some (.ireturn, 0, 0, 0, 0) else none)
          else
            bif Nat.blt pc 62 then
              (bif Nat.blt pc 60 then
                (bif Nat.beq pc 59 then some (.iconst 4, 0, 0, 0, 4) else none)
              else
                bif Nat.blt pc 61 then
                  (bif Nat.beq pc 60 then some (.iload_n 1, 1, 0, 0, 0) else none)
                else
                  bif Nat.beq pc 61 then some (.imul, 0, 0, 0, 0) else none)
            else
              bif Nat.blt pc 63 then
                (bif Nat.beq pc 62 then some (.iload_n 2, 2, 0, 0, 0) else none)
              else
                bif Nat.blt pc 64 then
                  (bif Nat.beq pc 63 then some (.iadd, 0, 0, 0, 0) else none)
                else
                  bif Nat.beq pc 64 then some (.istore 7, 7, 0, 0, 0) else none)
    else
      bif Nat.blt pc 104 then
        (bif Nat.blt pc 84 then
          (bif Nat.blt pc 74 then
            (bif Nat.blt pc 69 then
              (bif Nat.blt pc 67 then
                (bif Nat.beq pc 66 then some (.iload_n 3, 3, 0, 0, 0) else none)
              else
                bif Nat.beq pc 67 then some (.iload 5, 5, 0, 0, 0) else none)
            else
              bif Nat.blt pc 70 then
                (bif Nat.beq pc 69 then some (.iadd, 0, 0, 0, 0) else none)
              else
                bif Nat.blt pc 72 then
                  (bif Nat.beq pc 70 then some (.istore 8, 8, 0, 0, 0) else none)
                else
                  bif Nat.beq pc 72 then some (.iload 8, 8, 0, 0, 0) else none)
          else
            bif Nat.blt pc 78 then
              (bif Nat.blt pc 75 then
                (bif Nat.beq pc 74 then some (.aload_n 0, 0, 0, 0, 0) else none)
              else
                bif Nat.beq pc 75 then some (.getfield 41, 10, 14, 1, 0) else none)
            else
              bif Nat.blt pc 80 then
                (bif Nat.beq pc 78 then some (.iload 7, 7, 0, 0, 0) else none)
              else
                bif Nat.blt pc 81 then
                  (bif Nat.beq pc 80 then some (.iaload, 0, 0, 0, 0) else none)
                else
                  bif Nat.beq pc 81 then some (.if_icmp .le (8), 89, 0, 0, 0) else none)
        else
          bif Nat.blt pc 95 then
            (bif Nat.blt pc 89 then
              (bif Nat.blt pc 86 then
                (bif Nat.beq pc 84 then some (.iload 8, 8, 0, 0, 0) else none)
              else
                bif Nat.beq pc 86 then some (.goto 10, 96, 0, 0, 0) else none)
            else
              bif Nat.blt pc 90 then
                (bif Nat.beq pc 89 then some (.aload_n 0, 0, 0, 0, 0) else none)
              else
                bif Nat.blt pc 93 then
                  (bif Nat.beq pc 90 then some (.getfield 41, 10, 14, 1, 0) else none)
                else
                  bif Nat.beq pc 93 then some (.iload 7, 7, 0, 0, 0) else none)
          else
            bif Nat.blt pc 98 then
              (bif Nat.blt pc 96 then
                (bif Nat.beq pc 95 then some (.iaload, 0, 0, 0, 0) else none)
              else
                bif Nat.beq pc 96 then some (.istore 9, 9, 0, 0, 0) else none)
            else
              bif Nat.blt pc 100 then
                (bif Nat.beq pc 98 then some (.iload 8, 8, 0, 0, 0) else none)
              else
                bif Nat.blt pc 101 then
                  (bif Nat.beq pc 100 then some (.aload_n 0, 0, 0, 0, 0) else none)
                else
                  bif Nat.beq pc 101 then some (.getfield 50, 10, 17, 1, 0) else none)
      else
        bif Nat.blt pc 123 then
          (bif Nat.blt pc 112 then
            (bif Nat.blt pc 107 then
              (bif Nat.blt pc 106 then
                (bif Nat.beq pc 104 then some (.iload 7, 7, 0, 0, 0) else none)
              else
                bif Nat.beq pc 106 then some (.iaload, 0, 0, 0, 0) else none)
            else
              bif Nat.blt pc 110 then
                (bif Nat.beq pc 107 then some (.if_icmp .gt (15), 122, 0, 0, 0) else none)
              else
                bif Nat.blt pc 111 then
                  (bif Nat.beq pc 110 then some (.aload_n 0, 0, 0, 0, 0) else none)
                else
                  bif Nat.beq pc 111 then some (.iload_n 1, 1, 0, 0, 0) else none)
          else
            bif Nat.blt pc 116 then
              (bif Nat.blt pc 114 then
                (bif Nat.beq pc 112 then some (.iload 7, 7, 0, 0, 0) else none)
              else
                bif Nat.beq pc 114 then some (.iload 9, 9, 0, 0, 0) else none)
            else
              bif Nat.blt pc 119 then
                (bif Nat.beq pc 116 then some (.invokevirtual 251, 131, 4, 1, 0) else none)
              else
                bif Nat.blt pc 122 then
                  (bif Nat.beq pc 119 then some (.ifCond .eq (5), 124, 0, 0, 0) else none)
                else
                  bif Nat.beq pc 122 then some (.iconst 3, 0, 0, 0, 3) else none)
        else
          bif Nat.blt pc 132 then
            (bif Nat.blt pc 126 then
              (bif Nat.blt pc 124 then
                (bif Nat.beq pc 123 then some (.ireturn, 0, 0, 0, 0) else none)
              else
                bif Nat.beq pc 124 then some (.iload 6, 6, 0, 0, 0) else none)
            else
              bif Nat.blt pc 129 then
                (bif Nat.beq pc 126 then some (.ifCond .eq (37), 163, 0, 0, 0) else none)
              else
                bif Nat.blt pc 131 then
                  (bif Nat.beq pc 129 then some (.iload 8, 8, 0, 0, 0) else none)
                else
                  bif Nat.beq pc 131 then some (.aload_n 0, 0, 0, 0, 0) else none)
          else
            bif Nat.blt pc 138 then
              (bif Nat.blt pc 135 then
                (bif Nat.beq pc 132 then some (.getfield 41, 10, 14, 1, 0) else none)
              else
                bif Nat.blt pc 137 then
                  (bif Nat.beq pc 135 then some (.iload 7, 7, 0, 0, 0) else none)
                else
                  bif Nat.beq pc 137 then some (.iaload, 0, 0, 0, 0) else none)
            else
              bif Nat.blt pc 141 then
                (bif Nat.beq pc 138 then some (.if_icmp .lt (47), 185, 0, 0, 0) else none)
              else
                bif Nat.blt pc 142 then
                  (bif Nat.beq pc 141 then some (.aload_n 0, 0, 0, 0, 0) else none)
                else
                  bif Nat.beq pc 142 then some (.getfield 44, 10, 15, 1, 0) else none)
  else
    bif Nat.blt pc 225 then
      (bif Nat.blt pc 185 then
        (bif Nat.blt pc 164 then
          (bif Nat.blt pc 154 then
            (bif Nat.blt pc 148 then
              (bif Nat.blt pc 147 then
                (bif Nat.beq pc 145 then some (.iload 7, 7, 0, 0, 0) else none)
              else
                bif Nat.beq pc 147 then some (.iaload, 0, 0, 0, 0) else none)
            else
              bif Nat.blt pc 151 then
                (bif Nat.beq pc 148 then some (.ifCond .lt (15), 163, 0, 0, 0) else none)
              else
                bif Nat.blt pc 153 then
                  (bif Nat.beq pc 151 then some (.iload 8, 8, 0, 0, 0) else none)
                else
                  bif Nat.beq pc 153 then some (.aload_n 0, 0, 0, 0, 0) else none)
          else
            bif Nat.blt pc 159 then
              (bif Nat.blt pc 157 then
                (bif Nat.beq pc 154 then some (.getfield 44, 10, 15, 1, 0) else none)
              else
                bif Nat.beq pc 157 then some (.iload 7, 7, 0, 0, 0) else none)
            else
              bif Nat.blt pc 160 then
                (bif Nat.beq pc 159 then some (.iaload, 0, 0, 0, 0) else none)
              else
                bif Nat.blt pc 163 then
                  (bif Nat.beq pc 160 then some (.if_icmp .ne (25), 185, 0, 0, 0) else none)
                else
                  bif Nat.beq pc 163 then some (.aload_n 0, 0, 0, 0, 0) else none)
        else
          bif Nat.blt pc 175 then
            (bif Nat.blt pc 169 then
              (bif Nat.blt pc 167 then
                (bif Nat.beq pc 164 then some (.getfield 44, 10, 15, 1, 0) else none)
              else
                bif Nat.beq pc 167 then some (.iload 7, 7, 0, 0, 0) else none)
            else
              bif Nat.blt pc 170 then
                (bif Nat.beq pc 169 then some (.iaload, 0, 0, 0, 0) else none)
              else
                bif Nat.blt pc 173 then
                  (bif Nat.beq pc 170 then some (.ifCond .lt (17), 187, 0, 0, 0) else none)
                else
                  bif Nat.beq pc 173 then some (.iload 8, 8, 0, 0, 0) else none)
          else
            bif Nat.blt pc 179 then
              (bif Nat.blt pc 176 then
                (bif Nat.beq pc 175 then some (.aload_n 0, 0, 0, 0, 0) else none)
              else
                bif Nat.beq pc 176 then some (.getfield 44, 10, 15, 1, 0) else none)
            else
              bif Nat.blt pc 181 then
                (bif Nat.beq pc 179 then some (.iload 7, 7, 0, 0, 0) else none)
              else
                bif Nat.blt pc 182 then
                  (bif Nat.beq pc 181 then some (.iaload, 0, 0, 0, 0) else none)
                else
                  bif Nat.beq pc 182 then some (.if_icmp .le (5), 187, 0, 0, 0) else none)
      else
        bif Nat.blt pc 202 then
          (bif Nat.blt pc 193 then
            (bif Nat.blt pc 187 then
              (bif Nat.blt pc 186 then
                (bif Nat.beq pc 185 then some (.iconst 4, 0, 0, 0, 4) else none)
              else
                bif Nat.beq pc 186 then some (.ireturn, 0, 0, 0, 0) else none)
            else
              bif Nat.blt pc 189 then
                (bif Nat.beq pc 187 then some (.iload 6, 6, 0, 0, 0) else none)
              else
                bif Nat.blt pc 192 then
                  (bif Nat.beq pc 189 then some (.ifCond .eq (12), 201, 0, 0, 0) else none)
                else
                  bif Nat.beq pc 192 then some (.aload_n 0, 0, 0, 0, 0) else none)
          else
            bif Nat.blt pc 198 then
              (bif Nat.blt pc 196 then
                (bif Nat.beq pc 193 then some (.getfield 44, 10, 15, 1, 0) else none)
              else
                bif Nat.beq pc 196 then some (.iload 7, 7, 0, 0, 0) else none)
            else
              bif Nat.blt pc 200 then
                (bif Nat.beq pc 198 then some (.iload 8, 8, 0, 0, 0) else none)
              else
                bif Nat.blt pc 201 then
                  (bif Nat.beq pc 200 then some (.iastore, 0, 0, 0, 0) else none)
                else
                  bif Nat.beq pc 201 then some (.iconst 0, 0, 0, 0, 0) else none)
        else
          bif Nat.blt pc 212 then
            (bif Nat.blt pc 206 then
              (bif Nat.blt pc 204 then
                (bif Nat.beq pc 202 then some (.istore 10, 10, 0, 0, 0) else none)
              else
                bif Nat.beq pc 204 then some (.iload 10, 10, 0, 0, 0) else none)
            else
              bif Nat.blt pc 208 then
                (bif Nat.beq pc 206 then some (.iload 5, 5, 0, 0, 0) else none)
              else
                bif Nat.blt pc 211 then
                  (bif Nat.beq pc 208 then some (.if_icmp .ge (70), 278, 0, 0, 0) else none)
                else
                  bif Nat.beq pc 211 then some (.aload_n 0, 0, 0, 0, 0) else none)
          else
            bif Nat.blt pc 218 then
              (bif Nat.blt pc 215 then
                (bif Nat.beq pc 212 then some (.getfield 53, 10, 18, 1, 0) else none)
              else
                bif Nat.blt pc 217 then
                  (bif Nat.beq pc 215 then some (.iload 7, 7, 0, 0, 0) else none)
                else
                  bif Nat.beq pc 217 then some (.baload, 0, 0, 0, 0) else none)
            else
              bif Nat.blt pc 221 then
                (bif Nat.beq pc 218 then some (.ifCond .ne (60), 278, 0, 0, 0) else none)
              else
                bif Nat.blt pc 223 then
                  (bif Nat.beq pc 221 then some (.bipush 64, 0, 0, 0, 64) else none)
                else
                  bif Nat.beq pc 223 then some (.iload 7, 7, 0, 0, 0) else none)
    else
      bif Nat.blt pc 261 then
        (bif Nat.blt pc 240 then
          (bif Nat.blt pc 231 then
            (bif Nat.blt pc 227 then
              (bif Nat.blt pc 226 then
                (bif Nat.beq pc 225 then some (.imul, 0, 0, 0, 0) else none)
              else
                bif Nat.beq pc 226 then some (.iload_n 3, 3, 0, 0, 0) else none)
            else
              bif Nat.blt pc 228 then
                (bif Nat.beq pc 227 then some (.iadd, 0, 0, 0, 0) else none)
              else
                bif Nat.blt pc 230 then
                  (bif Nat.beq pc 228 then some (.iload 10, 10, 0, 0, 0) else none)
                else
                  bif Nat.beq pc 230 then some (.iadd, 0, 0, 0, 0) else none)
          else
            bif Nat.blt pc 234 then
              (bif Nat.blt pc 233 then
                (bif Nat.beq pc 231 then some (.istore 11, 11, 0, 0, 0) else none)
              else
                bif Nat.beq pc 233 then some (.aload_n 0, 0, 0, 0, 0) else none)
            else
              bif Nat.blt pc 237 then
                (bif Nat.beq pc 234 then some (.getfield 38, 10, 13, 1, 0) else none)
              else
                bif Nat.blt pc 239 then
                  (bif Nat.beq pc 237 then some (.iload 11, 11, 0, 0, 0) else none)
                else
                  bif Nat.beq pc 239 then some (.aload_n 0, 0, 0, 0, 0) else none)
        else
          bif Nat.blt pc 250 then
            (bif Nat.blt pc 245 then
              (bif Nat.blt pc 243 then
                (bif Nat.beq pc 240 then some (.getfield 38, 10, 13, 1, 0) else none)
              else
                bif Nat.beq pc 243 then some (.iload 11, 11, 0, 0, 0) else none)
            else
              bif Nat.blt pc 246 then
                (bif Nat.beq pc 245 then some (.iaload, 0, 0, 0, 0) else none)
              else
                bif Nat.blt pc 249 then
                  (bif Nat.beq pc 246 then some (.ifCond .ge (18), 264, 0, 0, 0) else none)
                else
                  bif Nat.beq pc 249 then some (.aload_n 0, 0, 0, 0, 0) else none)
          else
            bif Nat.blt pc 257 then
              (bif Nat.blt pc 253 then
                (bif Nat.beq pc 250 then some (.getfield 113, 10, 39, 1, 0) else none)
              else
                bif Nat.blt pc 254 then
                  (bif Nat.beq pc 253 then some (.aload_n 0, 0, 0, 0, 0) else none)
                else
                  bif Nat.beq pc 254 then some (.getfield 220, 10, 43, 0, 0) else none)
            else
              bif Nat.blt pc 259 then
                (bif Nat.beq pc 257 then some (.iload 10, 10, 0, 0, 0) else none)
              else
                bif Nat.blt pc 260 then
                  (bif Nat.beq pc 259 then some (.iadd, 0, 0, 0, 0) else none)
                else
                  bif Nat.beq pc 260 then some (.iaload, 0, 0, 0, 0) else none)
      else
        bif Nat.blt pc 282 then
          (bif Nat.blt pc 271 then
            (bif Nat.blt pc 265 then
              (bif Nat.blt pc 264 then
                (bif Nat.beq pc 261 then some (.goto 10, 271, 0, 0, 0) else none)
              else
                bif Nat.beq pc 264 then some (.aload_n 0, 0, 0, 0, 0) else none)
            else
              bif Nat.blt pc 268 then
                (bif Nat.beq pc 265 then some (.getfield 38, 10, 13, 1, 0) else none)
              else
                bif Nat.blt pc 270 then
                  (bif Nat.beq pc 268 then some (.iload 11, 11, 0, 0, 0) else none)
                else
                  bif Nat.beq pc 270 then some (.iaload, 0, 0, 0, 0) else none)
          else
            bif Nat.blt pc 275 then
              (bif Nat.blt pc 272 then
                (bif Nat.beq pc 271 then some (.iastore, 0, 0, 0, 0) else none)
              else
                bif Nat.beq pc 272 then some (.iinc 10 1, 10, 0, 0, 1) else none)
            else
              bif Nat.blt pc 278 then
                (bif Nat.beq pc 275 then some (.goto (-71), 204, 0, 0, 0) else none)
              else
                bif Nat.blt pc 279 then
                  (bif Nat.beq pc 278 then some (.aload_n 0, 0, 0, 0, 0) else none)
                else
                  bif Nat.beq pc 279 then some (.getfield 41, 10, 14, 1, 0) else none)
        else
          bif Nat.blt pc 289 then
            (bif Nat.blt pc 286 then
              (bif Nat.blt pc 284 then
                (bif Nat.beq pc 282 then some (.iload 7, 7, 0, 0, 0) else none)
              else
                bif Nat.beq pc 284 then some (.iload 9, 9, 0, 0, 0) else none)
            else
              bif Nat.blt pc 287 then
                (bif Nat.beq pc 286 then some (.iastore, 0, 0, 0, 0) else none)
              else
                bif Nat.blt pc 288 then
                  (bif Nat.beq pc 287 then some (.aload_n 0, 0, 0, 0, 0) else none)
                else
                  bif Nat.beq pc 288 then some (.aload_n 0, 0, 0, 0, 0) else none)
          else
            bif Nat.blt pc 295 then
              (bif Nat.blt pc 292 then
                (bif Nat.beq pc 289 then some (.getfield 220, 10, 43, 0, 0) else none)
              else
                bif Nat.blt pc 294 then
                  (bif Nat.beq pc 292 then some (.iload 5, 5, 0, 0, 0) else none)
                else
                  bif Nat.beq pc 294 then some (.iadd, 0, 0, 0, 0) else none)
            else
              bif Nat.blt pc 298 then
                (bif Nat.beq pc 295 then some (.putfield 220, 10, 43, 0, 0) else none)
              else
                bif Nat.blt pc 299 then
                  (bif Nat.beq pc 298 then some (.iconst 0, 0, 0, 0, 0) else none)
                else
                  bif Nat.beq pc 299 then some (.ireturn, 0, 0, 0, 0) else none
def i_M_segment : Nat → Option Ent := ab_tab 300 t_M_segment
def h_M_segment (pc : Nat) : Nat × List Bool := bif Nat.beq pc 25 then (1, [true, true, true, true, false, true, false, false, false, false, false, false]) else bif Nat.beq pc 96 then (1, [true, true, false, true, false, true, true, true, true, false, false, false]) else bif Nat.beq pc 163 then (1, [true, false, false, true, false, true, true, true, true, true, false, false]) else bif Nat.beq pc 187 then (1, [true, false, false, true, false, true, true, true, true, true, false, false]) else bif Nat.beq pc 201 then (1, [true, false, false, true, false, true, false, true, false, true, false, false]) else bif Nat.beq pc 204 then (1, [true, false, false, true, false, true, false, true, false, true, true, false]) else bif Nat.beq pc 271 then (1, [true, false, false, true, false, true, false, true, false, true, true, false]) else bif Nat.beq pc 278 then (1, [true, false, false, false, false, true, false, true, false, true, false, false]) else (0, [])
def s_M_segment (pc : Nat) : List (Int32 × Nat) × Nat := ([], 0)
noncomputable def eV_M_segment : Nat → List AV → Mm → Option Mm := ab_ev []
noncomputable def eI_M_segment : Nat → List AV → Mm → Option (Int32 × Mm) := ab_ev [(129, c_M_numberAt), (131, c_M_isBeyond)]
noncomputable def b_M_segment_0 (f : Nat) (v0 : Nat) (v1 : Int32) (v2 : Int32) (v3 : Int32) (m : Mm) : Option Rs := ab_ex KT none s_M_segment eV_M_segment eI_M_segment i_M_segment h_M_segment f 0 [some (.inr (.inr (28, some v0))), some (.inl v1), some (.inl v2), some (.inl v3), none, none, none, none, none, none, none, none] [] m
noncomputable def b_M_segment_25 (f : Nat) (v0 : Nat) (v1 : Int32) (v2 : Int32) (v3 : Int32) (v5 : Int32) (u0 : Int32) (m : Mm) : Option Rs := ab_ex KT none s_M_segment eV_M_segment eI_M_segment i_M_segment h_M_segment f 25 [some (.inr (.inr (28, some v0))), some (.inl v1), some (.inl v2), some (.inl v3), none, some (.inl v5), none, none, none, none, none, none] [.inl u0] m
noncomputable def b_M_segment_96 (f : Nat) (v0 : Nat) (v1 : Int32) (v3 : Int32) (v5 : Int32) (v6 : Int32) (v7 : Int32) (v8 : Int32) (u0 : Int32) (m : Mm) : Option Rs := ab_ex KT none s_M_segment eV_M_segment eI_M_segment i_M_segment h_M_segment f 96 [some (.inr (.inr (28, some v0))), some (.inl v1), none, some (.inl v3), none, some (.inl v5), some (.inl v6), some (.inl v7), some (.inl v8), none, none, none] [.inl u0] m
noncomputable def b_M_segment_163 (f : Nat) (v0 : Nat) (v3 : Int32) (v5 : Int32) (v6 : Int32) (v7 : Int32) (v8 : Int32) (v9 : Int32) (m : Mm) : Option Rs := ab_ex KT none s_M_segment eV_M_segment eI_M_segment i_M_segment h_M_segment f 163 [some (.inr (.inr (28, some v0))), none, none, some (.inl v3), none, some (.inl v5), some (.inl v6), some (.inl v7), some (.inl v8), some (.inl v9), none, none] [] m
noncomputable def b_M_segment_187 (f : Nat) (v0 : Nat) (v3 : Int32) (v5 : Int32) (v6 : Int32) (v7 : Int32) (v8 : Int32) (v9 : Int32) (m : Mm) : Option Rs := ab_ex KT none s_M_segment eV_M_segment eI_M_segment i_M_segment h_M_segment f 187 [some (.inr (.inr (28, some v0))), none, none, some (.inl v3), none, some (.inl v5), some (.inl v6), some (.inl v7), some (.inl v8), some (.inl v9), none, none] [] m
noncomputable def b_M_segment_201 (f : Nat) (v0 : Nat) (v3 : Int32) (v5 : Int32) (v7 : Int32) (v9 : Int32) (m : Mm) : Option Rs := ab_ex KT none s_M_segment eV_M_segment eI_M_segment i_M_segment h_M_segment f 201 [some (.inr (.inr (28, some v0))), none, none, some (.inl v3), none, some (.inl v5), none, some (.inl v7), none, some (.inl v9), none, none] [] m
noncomputable def b_M_segment_204 (f : Nat) (v0 : Nat) (v3 : Int32) (v5 : Int32) (v7 : Int32) (v9 : Int32) (v10 : Int32) (m : Mm) : Option Rs := ab_ex KT none s_M_segment eV_M_segment eI_M_segment i_M_segment h_M_segment f 204 [some (.inr (.inr (28, some v0))), none, none, some (.inl v3), none, some (.inl v5), none, some (.inl v7), none, some (.inl v9), some (.inl v10), none] [] m
noncomputable def b_M_segment_271 (f : Nat) (v0 : Nat) (v3 : Int32) (v5 : Int32) (v7 : Int32) (v9 : Int32) (v10 : Int32) (u0 : Nat) (u1 : Int32) (u2 : Int32) (m : Mm) : Option Rs := ab_ex KT none s_M_segment eV_M_segment eI_M_segment i_M_segment h_M_segment f 271 [some (.inr (.inr (28, some v0))), none, none, some (.inl v3), none, some (.inl v5), none, some (.inl v7), none, some (.inl v9), some (.inl v10), none] [.inl u2, .inl u1, .inr (.inr (38, some u0))] m
noncomputable def b_M_segment_278 (f : Nat) (v0 : Nat) (v5 : Int32) (v7 : Int32) (v9 : Int32) (m : Mm) : Option Rs := ab_ex KT none s_M_segment eV_M_segment eI_M_segment i_M_segment h_M_segment f 278 [some (.inr (.inr (28, some v0))), none, none, none, none, some (.inl v5), none, some (.inl v7), none, some (.inl v9), none, none] [] m
set_option maxRecDepth 100000 in
set_option maxHeartbeats 4000000 in
theorem b_M_segment_0_eq (f : Nat) (v0 : Nat) (v1 : Int32) (v2 : Int32) (v3 : Int32) (m : Mm) : b_M_segment_0 (f + 1) v0 v1 v2 v3 m =
    (r_M_numberAt v0 m).bind fun z1 =>
    if (2 : Int32) = 0 then none else
    ab_let ((z1.1 / (2 : Int32))) fun x2 =>
    if (2 : Int32) = 0 then none else
    if (z1.1 - z1.1 / (2 : Int32) * (2 : Int32)) = (1 : Int32) then
      b_M_segment_25 f v0 v1 v2 v3 x2 (1 : Int32) z1.2
    else
      b_M_segment_25 f v0 v1 v2 v3 x2 (0 : Int32) z1.2 := rfl
set_option maxRecDepth 100000 in
set_option maxHeartbeats 4000000 in
theorem b_M_segment_25_eq (f : Nat) (v0 : Nat) (v1 : Int32) (v2 : Int32) (v3 : Int32) (v5 : Int32) (u0 : Int32) (m : Mm) : b_M_segment_25 (f + 1) v0 v1 v2 v3 v5 u0 m =
    if (m.1 127 v0 0) = 0 then
      if v5 ≤ (((m.1 123 v0 0) - (2 : Int32)) - (m.1 124 v0 0)) then
        if v2 ≤ (3 : Int32) then
          ab_let ((((4 : Int32) * v1) + v2)) fun x1 =>
          ab_let ((v3 + v5)) fun x2 =>
          (ab_ix x1 8).bind fun i3 =>
          if x2 ≤ (m.1 143 (v0 + 11) i3) then
            (ab_ix x1 8).bind fun i4 =>
            b_M_segment_96 f v0 v1 v3 v5 u0 x1 x2 (m.1 143 (v0 + 11) i4) m
          else
            b_M_segment_96 f v0 v1 v3 v5 u0 x1 x2 x2 m
        else
          some (.inl (some (.inl (2 : Int32)), m))
      else
        some (.inl (some (.inl (1 : Int32)), m))
    else
      some (.inl (some (.inl (1 : Int32)), m)) := rfl
set_option maxRecDepth 100000 in
set_option maxHeartbeats 4000000 in
theorem b_M_segment_96_eq (f : Nat) (v0 : Nat) (v1 : Int32) (v3 : Int32) (v5 : Int32) (v6 : Int32) (v7 : Int32) (v8 : Int32) (u0 : Int32) (m : Mm) : b_M_segment_96 (f + 1) v0 v1 v3 v5 v6 v7 v8 u0 m =
    (ab_ix v7 8).bind fun i1 =>
    if (m.1 146 (v0 + 14) i1) < v8 then
      some (.inl (some (.inl (3 : Int32)), m))
    else
      (r_M_isBeyond v0 v1 v7 u0 m).bind fun z2 =>
      if z2.1 = 0 then
        if v6 = 0 then
          b_M_segment_163 f v0 v3 v5 v6 v7 v8 u0 z2.2
        else
          (ab_ix v7 8).bind fun i3 =>
          if v8 < (z2.2.1 143 (v0 + 11) i3) then
            some (.inl (some (.inl (4 : Int32)), z2.2))
          else
            (ab_ix v7 8).bind fun i4 =>
            if (z2.2.1 144 (v0 + 12) i4) < 0 then
              b_M_segment_163 f v0 v3 v5 v6 v7 v8 u0 z2.2
            else
              (ab_ix v7 8).bind fun i5 =>
              if v8 = (z2.2.1 144 (v0 + 12) i5) then
                b_M_segment_163 f v0 v3 v5 v6 v7 v8 u0 z2.2
              else
                some (.inl (some (.inl (4 : Int32)), z2.2))
      else
        some (.inl (some (.inl (3 : Int32)), z2.2)) := rfl
set_option maxRecDepth 100000 in
set_option maxHeartbeats 4000000 in
theorem b_M_segment_163_eq (f : Nat) (v0 : Nat) (v3 : Int32) (v5 : Int32) (v6 : Int32) (v7 : Int32) (v8 : Int32) (v9 : Int32) (m : Mm) : b_M_segment_163 (f + 1) v0 v3 v5 v6 v7 v8 v9 m =
    (ab_ix v7 8).bind fun i1 =>
    if (m.1 144 (v0 + 12) i1) < 0 then
      b_M_segment_187 f v0 v3 v5 v6 v7 v8 v9 m
    else
      (ab_ix v7 8).bind fun i2 =>
      if v8 ≤ (m.1 144 (v0 + 12) i2) then
        b_M_segment_187 f v0 v3 v5 v6 v7 v8 v9 m
      else
        some (.inl (some (.inl (4 : Int32)), m)) := rfl
set_option maxRecDepth 100000 in
set_option maxHeartbeats 4000000 in
theorem b_M_segment_187_eq (f : Nat) (v0 : Nat) (v3 : Int32) (v5 : Int32) (v6 : Int32) (v7 : Int32) (v8 : Int32) (v9 : Int32) (m : Mm) : b_M_segment_187 (f + 1) v0 v3 v5 v6 v7 v8 v9 m =
    if v6 = 0 then
      b_M_segment_201 f v0 v3 v5 v7 v9 m
    else
      (ab_ix v7 8).bind fun i1 =>
      ab_let (ab_uI m 144 (v0 + 12) i1 v8) fun m2 =>
      b_M_segment_201 f v0 v3 v5 v7 v9 m2 := rfl
set_option maxRecDepth 100000 in
set_option maxHeartbeats 4000000 in
theorem b_M_segment_201_eq (f : Nat) (v0 : Nat) (v3 : Int32) (v5 : Int32) (v7 : Int32) (v9 : Int32) (m : Mm) : b_M_segment_201 (f + 1) v0 v3 v5 v7 v9 m =
    b_M_segment_204 f v0 v3 v5 v7 v9 (0 : Int32) m := rfl
set_option maxRecDepth 100000 in
set_option maxHeartbeats 4000000 in
theorem b_M_segment_204_eq (f : Nat) (v0 : Nat) (v3 : Int32) (v5 : Int32) (v7 : Int32) (v9 : Int32) (v10 : Int32) (m : Mm) : b_M_segment_204 (f + 1) v0 v3 v5 v7 v9 v10 m =
    if v5 ≤ v10 then
      b_M_segment_278 f v0 v5 v7 v9 m
    else
      (ab_ix v7 8).bind fun i1 =>
      if (m.1 147 (v0 + 15) i1) = 0 then
        ab_let (((((64 : Int32) * v7) + v3) + v10)) fun x2 =>
        (ab_ix x2 512).bind fun i3 =>
        if 0 ≤ (m.1 142 (v0 + 10) i3) then
          (ab_ix x2 512).bind fun i4 =>
          b_M_segment_271 f v0 v3 v5 v7 v9 v10 (v0 + 10) x2 (m.1 142 (v0 + 10) i4) m
        else
          (ab_ix ((m.1 124 v0 0) + v10) 48).bind fun i5 =>
          b_M_segment_271 f v0 v3 v5 v7 v9 v10 (v0 + 10) x2 (m.1 167 (v0 + 35) i5) m
      else
        b_M_segment_278 f v0 v5 v7 v9 m := rfl
set_option maxRecDepth 100000 in
set_option maxHeartbeats 4000000 in
theorem b_M_segment_271_eq (f : Nat) (v0 : Nat) (v3 : Int32) (v5 : Int32) (v7 : Int32) (v9 : Int32) (v10 : Int32) (u0 : Nat) (u1 : Int32) (u2 : Int32) (m : Mm) : b_M_segment_271 (f + 1) v0 v3 v5 v7 v9 v10 u0 u1 u2 m =
    (ab_ix u1 512).bind fun i1 =>
    ab_let (ab_uI m 142 u0 i1 u2) fun m2 =>
    ab_let (v10 + (1 : Int32)) fun x3 =>
    b_M_segment_204 f v0 v3 v5 v7 v9 x3 m2 := rfl
set_option maxRecDepth 100000 in
set_option maxHeartbeats 4000000 in
theorem b_M_segment_278_eq (f : Nat) (v0 : Nat) (v5 : Int32) (v7 : Int32) (v9 : Int32) (m : Mm) : b_M_segment_278 (f + 1) v0 v5 v7 v9 m =
    (ab_ix v7 8).bind fun i1 =>
    ab_let (ab_uI m 143 (v0 + 11) i1 v9) fun m2 =>
    ab_let (ab_uI m2 124 v0 0 ((m2.1 124 v0 0) + v5)) fun m3 =>
    some (.inl (some (.inl (0 : Int32)), m3)) := rfl
noncomputable def r_M_segment : Nat → Int32 → Int32 → Int32 → Mm → Option (Int32 × Mm) := ab_seal fun v0 v1 v2 v3 m => ab_rI (b_M_segment_0 50000 v0 v1 v2 v3 m)
theorem r_M_segment_eq (v0 : Nat) (v1 : Int32) (v2 : Int32) (v3 : Int32) (m : Mm) : r_M_segment v0 v1 v2 v3 m = ab_rI (b_M_segment_0 50000 v0 v1 v2 v3 m) := by
  unfold r_M_segment
  rw [ab_seal_eq]
noncomputable def c_M_segment : List AV → Mm → Option (Int32 × Mm) := fun av m => match av with
  | [.inr (.inr (kv0, ov0)), .inl v1, .inl v2, .inl v3] => if kv0 = 28 then (ov0.bind fun v0 => r_M_segment v0 v1 v2 v3 m) else none
  | _ => none
theorem c_M_segment_inv {av : List AV} {m : Mm} {r : Int32 × Mm} (h : c_M_segment av m = some r) : ∃ (v0 : Nat) (v1 : Int32) (v2 : Int32) (v3 : Int32), av = [.inr (.inr (28, some v0)), .inl v1, .inl v2, .inl v3] ∧ r_M_segment v0 v1 v2 v3 m = some r := by
  unfold c_M_segment at h
  split at h
  · rename_i kv0 ov0 v1 v2 v3
    by_cases hkv0 : kv0 = 28
    case neg => rw [if_neg hkv0] at h; cases h
    rw [if_pos hkv0] at h
    subst hkv0
    obtain ⟨v0, hev0, h⟩ := Option.bind_eq_some_iff.mp h
    subst hev0
    exact ⟨v0, v1, v2, v3, rfl, h⟩
  · cases h
def cs_M_segment : List Nat := [1, 116]
set_option maxRecDepth 100000 in
theorem E_M_segment : ∀ (pc : Nat) (q : Ent), i_M_segment pc = some q → ab_E KT CL ab_gW "StreamTransportModel" "segment" (some .int) prog_12_method_34_code s_M_segment 12 pc q.1 q.2.1 q.2.2.1 q.2.2.2.1 q.2.2.2.2 := fun pc q hq =>
  ab_Eb_ok lc_M lj_M fl_M (fpn_M "segment") nw_M na_M nq_M (ab_tab_all (t := t_M_segment) (chk := fun pc q => ab_Eb (some .int) prog_12_method_34_code s_M_segment 12 LC_M LJ_M FL_M FPn_M NW_M NA_M NQ_M pc q.1 q.2.1 q.2.2.1 q.2.2.2.1 q.2.2.2.2) (by decide +kernel) hq)
set_option maxRecDepth 100000 in
theorem kp_M_segment {av : List AV} {m : Mm} {r : Int32 × Mm} (h : c_M_segment av m = some r) : ab_kp m r.2 := by
  obtain ⟨v0, v1, v2, v3, -, h⟩ := c_M_segment_inv h
  rw [r_M_segment_eq] at h
  have hV : ∀ a av m m', eV_M_segment a av m = some m' → ab_kp m m' := ab_ev_all (P := fun _ m r => ab_kp m r) [] (fun q hq => by cases hq)
  have hI : ∀ a av m q, eI_M_segment a av m = some q → ab_kp m q.2 := ab_ev_all (P := fun _ (m : Mm) (r : Int32 × Mm) => ab_kp m r.2) [(129, c_M_numberAt), (131, c_M_isBeyond)] (List.forall_mem_cons.mpr ⟨fun av m r h => kp_M_numberAt h, List.forall_mem_cons.mpr ⟨fun av m r h => kp_M_isBeyond h, fun q hq => by cases hq⟩⟩)
  exact ab_kprel (ρ := .inl (some (.inl r.1), r.2)) (ab_tab_isn (t := t_M_segment) (by decide +kernel)) hV hI (ab_rI_inv h)
set_option maxRecDepth 100000 in
theorem cl_M_segment (l : Launch) : ∀ (pc : Nat) (q : Ent), i_M_segment pc = some q → ab_inv q.1 = true → ab_CR l KT CL none ab_gW "StreamTransportModel" prog_12_method_34_code 12 1 26 eV_M_segment eI_M_segment pc q := by
  intro pc q hq hi
  have hm : pc ∈ cs_M_segment := ab_tab_cs (t := t_M_segment) (by decide +kernel) hq hi
  simp only [cs_M_segment, List.mem_cons, List.not_mem_nil, or_false] at hm
  rcases hm with rfl | rfl
  · cases (Option.some.inj hq : ((.invokevirtual 240, 129, 1, 1, 0) : Ent) = q)
    exact ab_crV (C := "StreamTransportModel") (by decide +kernel) cw_M_numberAt (ab_gW_in 1273 (by decide +kernel) rfl) is_M_numberAt sl_M_numberAt (by decide) (fun av m m' h => by cases h) (fun av m r h => cm_M_numberAt l h) KT_nd
  · cases (Option.some.inj hq : ((.invokevirtual 251, 131, 4, 1, 0) : Ent) = q)
    exact ab_crV (C := "StreamTransportModel") (by decide +kernel) cw_M_isBeyond (ab_gW_in 1290 (by decide +kernel) rfl) is_M_isBeyond sl_M_isBeyond (by decide) (fun av m m' h => by cases h) (fun av m r h => cm_M_isBeyond l h) KT_nd
theorem cw_M_segment : ab_cw y_M_segment prog_12_method_34_code 12 3 (some .int) := ⟨ab_gW_in 1289 (by decide +kernel) rfl, ab_gW_in 71 (by decide +kernel) rfl, by decide +kernel, by decide +kernel, by decide +kernel⟩
theorem is_M_segment : Cond.instanceMethod y_M_segment ∈ ab_gW := ab_gW_in 1288 (by decide +kernel) rfl
theorem sl_M_segment : Cond.selects "StreamTransportModel" y_M_segment y_M_segment ∈ ab_gW := ab_gW_in 55 (by decide +kernel) rfl
set_option maxRecDepth 100000 in
theorem cm_M_segment (l : Launch) {av : List AV} {m : Mm} {r : Int32 × Mm} (h0 : c_M_segment av m = some r) : ∃ (k q : Nat) (av' : List AV) (ci : Nat) (fs : List (Nat × Nat × Nat × Nat)) (z : vw_C), av = .inr (.inr (k, some q)) :: av' ∧ av'.length = 3 ∧ k ≠ 0 ∧ KT[k]? = some (.inl (ci, fs)) ∧ CL[ci]? = some z ∧ z.1 = "StreamTransportModel" ∧ ab_nos av' ∧ ab_Met l KT CL y_M_segment (Cond.code y_M_segment prog_12_method_34_code 12 (some .int) :: ab_gW) 1 26 none av m (some (.inl r.1)) r.2 := by
  obtain ⟨v0, v1, v2, v3, hav, h⟩ := c_M_segment_inv h0
  rw [r_M_segment_eq] at h
  have hmo : ab_mo m r.2 := ab_kp_mo (kp_M_segment h0)
  subst hav
  exact ⟨_, _, _, _, _, _, rfl, rfl, by decide, rfl, rfl, rfl, (by intro v hv q e; subst e; simp at hv), ab_met (by decide +kernel) KT_0 KT_nd KT_k3 E_M_segment (cl_M_segment l) hmo (Nat.le_of_ble_eq_true rfl) (ab_rI_inv h) (fun v hv => by cases hv; exact ⟨_, rfl⟩)⟩
/-! StreamTransportModel.resetBy(III)I -/
def y_M_resetBy : MethodName := ⟨"StreamTransportModel", "resetBy", "(III)I"⟩
def t_M_resetBy (pc : Nat) : Option Ent :=
  bif Nat.blt pc 52 then
    (bif Nat.blt pc 24 then
      (bif Nat.blt pc 12 then
        (bif Nat.blt pc 6 then
          (bif Nat.blt pc 2 then
            (bif Nat.blt pc 1 then
              (bif Nat.beq pc 0 then some (.iload_n 3, 3, 0, 0, 0) else none)
            else
              bif Nat.beq pc 1 then some (.aload_n 0, 0, 0, 0, 0) else none)
          else
            bif Nat.blt pc 5 then
              (bif Nat.beq pc 2 then some (.getfield 50, 10, 17, 1, 0) else none)
            else
              bif Nat.beq pc 5 then some (.iload_n 2, 2, 0, 0, 0) else none)
        else
          bif Nat.blt pc 10 then
            (bif Nat.blt pc 7 then
              (bif Nat.beq pc 6 then some (.iaload, 0, 0, 0, 0) else none)
            else
              bif Nat.beq pc 7 then some (.if_icmp .gt (32), 39, 0, 0, 0) else none)
          else
            bif Nat.blt pc 11 then
              (bif Nat.beq pc 10 then some (.aload_n 0, 0, 0, 0, 0) else none)
            else
              bif Nat.beq pc 11 then some (.iload_n 1, 1, 0, 0, 0) else none)
      else
        bif Nat.blt pc 18 then
          (bif Nat.blt pc 14 then
            (bif Nat.blt pc 13 then
              (bif Nat.beq pc 12 then some (.iload_n 2, 2, 0, 0, 0) else none)
            else
              bif Nat.beq pc 13 then some (.iload_n 3, 3, 0, 0, 0) else none)
          else
            bif Nat.blt pc 15 then
              (bif Nat.beq pc 14 then some (.aload_n 0, 0, 0, 0, 0) else none)
            else
              bif Nat.beq pc 15 then some (.getfield 41, 10, 14, 1, 0) else none)
        else
          bif Nat.blt pc 20 then
            (bif Nat.blt pc 19 then
              (bif Nat.beq pc 18 then some (.iload_n 2, 2, 0, 0, 0) else none)
            else
              bif Nat.beq pc 19 then some (.iaload, 0, 0, 0, 0) else none)
          else
            bif Nat.blt pc 23 then
              (bif Nat.beq pc 20 then some (.if_icmp .le (7), 27, 0, 0, 0) else none)
            else
              bif Nat.beq pc 23 then some (.iload_n 3, 3, 0, 0, 0) else none)
    else
      bif Nat.blt pc 40 then
        (bif Nat.blt pc 32 then
          (bif Nat.blt pc 28 then
            (bif Nat.blt pc 27 then
              (bif Nat.beq pc 24 then some (.goto 9, 33, 0, 0, 0) else none)
            else
              bif Nat.beq pc 27 then some (.aload_n 0, 0, 0, 0, 0) else none)
          else
            bif Nat.blt pc 31 then
              (bif Nat.beq pc 28 then some (.getfield 41, 10, 14, 1, 0) else none)
            else
              bif Nat.beq pc 31 then some (.iload_n 2, 2, 0, 0, 0) else none)
        else
          bif Nat.blt pc 36 then
            (bif Nat.blt pc 33 then
              (bif Nat.beq pc 32 then some (.iaload, 0, 0, 0, 0) else none)
            else
              bif Nat.beq pc 33 then some (.invokevirtual 251, 131, 4, 1, 0) else none)
          else
            bif Nat.blt pc 39 then
              (bif Nat.beq pc 36 then some (.ifCond .eq (5), 41, 0, 0, 0) else none)
            else
              bif Nat.beq pc 39 then some (.iconst 3, 0, 0, 0, 3) else none)
      else
        bif Nat.blt pc 46 then
          (bif Nat.blt pc 42 then
            (bif Nat.blt pc 41 then
              (bif Nat.beq pc 40 then some (.ireturn, 0, 0, 0, 0) else none)
            else
              bif Nat.beq pc 41 then some (.iload_n 3, 3, 0, 0, 0) else none)
          else
            bif Nat.blt pc 43 then
              (bif Nat.beq pc 42 then some (.aload_n 0, 0, 0, 0, 0) else none)
            else
              bif Nat.beq pc 43 then some (.getfield 41, 10, 14, 1, 0) else none)
        else
          bif Nat.blt pc 48 then
            (bif Nat.blt pc 47 then
              (bif Nat.beq pc 46 then some (.iload_n 2, 2, 0, 0, 0) else none)
            else
              bif Nat.beq pc 47 then some (.iaload, 0, 0, 0, 0) else none)
          else
            bif Nat.blt pc 51 then
              (bif Nat.beq pc 48 then some (.if_icmp .lt (22), 70, 0, 0, 0) else none)
            else
              bif Nat.beq pc 51 then some (.aload_n 0, 0, 0, 0, 0) else none)
  else
    bif Nat.blt pc 78 then
      (bif Nat.blt pc 66 then
        (bif Nat.blt pc 60 then
          (bif Nat.blt pc 56 then
            (bif Nat.blt pc 55 then
              (bif Nat.beq pc 52 then some (.getfield 44, 10, 15, 1, 0) else none)
            else
              bif Nat.beq pc 55 then some (.iload_n 2, 2, 0, 0, 0) else none)
          else
            bif Nat.blt pc 57 then
              (bif Nat.beq pc 56 then some (.iaload, 0, 0, 0, 0) else none)
            else
              bif Nat.beq pc 57 then some (.ifCond .lt (15), 72, 0, 0, 0) else none)
        else
          bif Nat.blt pc 62 then
            (bif Nat.blt pc 61 then
              (bif Nat.beq pc 60 then some (.iload_n 3, 3, 0, 0, 0) else none)
            else
              bif Nat.beq pc 61 then some (.aload_n 0, 0, 0, 0, 0) else none)
          else
            bif Nat.blt pc 65 then
              (bif Nat.beq pc 62 then some (.getfield 44, 10, 15, 1, 0) else none)
            else
              bif Nat.beq pc 65 then some (.iload_n 2, 2, 0, 0, 0) else none)
      else
        bif Nat.blt pc 72 then
          (bif Nat.blt pc 70 then
            (bif Nat.blt pc 67 then
              (bif Nat.beq pc 66 then some (.iaload, 0, 0, 0, 0) else none)
            else
              bif Nat.beq pc 67 then some (.if_icmp .eq (5), 72, 0, 0, 0) else none)
          else
            bif Nat.blt pc 71 then
              (bif Nat.beq pc 70 then some (.iconst 4, 0, 0, 0, 4) else none)
            else
              bif Nat.beq pc 71 then some (.ireturn, 0, 0, 0, 0) else none)
        else
          bif Nat.blt pc 76 then
            (bif Nat.blt pc 73 then
              (bif Nat.beq pc 72 then some (.aload_n 0, 0, 0, 0, 0) else none)
            else
              bif Nat.beq pc 73 then some (.getfield 53, 10, 18, 1, 0) else none)
          else
            bif Nat.blt pc 77 then
              (bif Nat.beq pc 76 then some (.iload_n 2, 2, 0, 0, 0) else none)
            else
              bif Nat.beq pc 77 then some (.iconst 1, 0, 0, 0, 1) else none)
    else
      bif Nat.blt pc 90 then
        (bif Nat.blt pc 84 then
          (bif Nat.blt pc 80 then
            (bif Nat.blt pc 79 then
              (bif Nat.beq pc 78 then some (.bastore, 0, 0, 0, 0) else none)
            else
              bif Nat.beq pc 79 then some (.aload_n 0, 0, 0, 0, 0) else none)
          else
            bif Nat.blt pc 83 then
              (bif Nat.beq pc 80 then some (.getfield 44, 10, 15, 1, 0) else none)
            else
              bif Nat.beq pc 83 then some (.iload_n 2, 2, 0, 0, 0) else none)
        else
          bif Nat.blt pc 86 then
            (bif Nat.blt pc 85 then
              (bif Nat.beq pc 84 then some (.iload_n 3, 3, 0, 0, 0) else none)
            else
              bif Nat.beq pc 85 then some (.iastore, 0, 0, 0, 0) else none)
          else
            bif Nat.blt pc 87 then
              (bif Nat.beq pc 86 then some (.aload_n 0, 0, 0, 0, 0) else none)
            else
              bif Nat.beq pc 87 then some (.getfield 41, 10, 14, 1, 0) else none)
      else
        bif Nat.blt pc 94 then
          (bif Nat.blt pc 92 then
            (bif Nat.blt pc 91 then
              (bif Nat.beq pc 90 then some (.iload_n 2, 2, 0, 0, 0) else none)
            else
              bif Nat.beq pc 91 then some (.iload_n 3, 3, 0, 0, 0) else none)
          else
            bif Nat.blt pc 93 then
              (bif Nat.beq pc 92 then some (.iastore, 0, 0, 0, 0) else none)
            else
              bif Nat.beq pc 93 then some (.aload_n 0, 0, 0, 0, 0) else none)
        else
          bif Nat.blt pc 98 then
            (bif Nat.blt pc 95 then
              (bif Nat.beq pc 94 then some (.iload_n 1, 1, 0, 0, 0) else none)
            else
              bif Nat.beq pc 95 then some (.invokevirtual 155, 108, 2, 0, 0) else none)
          else
            bif Nat.blt pc 99 then
              (bif Nat.beq pc 98 then some (.iconst 0, 0, 0, 0, 0) else none)
            else
              bif Nat.beq pc 99 then some (.ireturn, 0, 0, 0, 0) else none
def i_M_resetBy : Nat → Option Ent := ab_tab 100 t_M_resetBy
def h_M_resetBy (pc : Nat) : Nat × List Bool := bif Nat.beq pc 33 then (1, [true, true, true, true]) else bif Nat.beq pc 72 then (1, [true, true, true, true]) else (0, [])
def s_M_resetBy (pc : Nat) : List (Int32 × Nat) × Nat := ([], 0)
noncomputable def eV_M_resetBy : Nat → List AV → Mm → Option Mm := ab_ev [(108, c_M_lookAll)]
noncomputable def eI_M_resetBy : Nat → List AV → Mm → Option (Int32 × Mm) := ab_ev [(131, c_M_isBeyond)]
noncomputable def b_M_resetBy_0 (f : Nat) (v0 : Nat) (v1 : Int32) (v2 : Int32) (v3 : Int32) (m : Mm) : Option Rs := ab_ex KT none s_M_resetBy eV_M_resetBy eI_M_resetBy i_M_resetBy h_M_resetBy f 0 [some (.inr (.inr (28, some v0))), some (.inl v1), some (.inl v2), some (.inl v3)] [] m
noncomputable def b_M_resetBy_33 (f : Nat) (v0 : Nat) (v1 : Int32) (v2 : Int32) (v3 : Int32) (u0 : Nat) (u1 : Int32) (u2 : Int32) (u3 : Int32) (m : Mm) : Option Rs := ab_ex KT none s_M_resetBy eV_M_resetBy eI_M_resetBy i_M_resetBy h_M_resetBy f 33 [some (.inr (.inr (28, some v0))), some (.inl v1), some (.inl v2), some (.inl v3)] [.inl u3, .inl u2, .inl u1, .inr (.inr (28, some u0))] m
noncomputable def b_M_resetBy_72 (f : Nat) (v0 : Nat) (v1 : Int32) (v2 : Int32) (v3 : Int32) (m : Mm) : Option Rs := ab_ex KT none s_M_resetBy eV_M_resetBy eI_M_resetBy i_M_resetBy h_M_resetBy f 72 [some (.inr (.inr (28, some v0))), some (.inl v1), some (.inl v2), some (.inl v3)] [] m
set_option maxRecDepth 100000 in
set_option maxHeartbeats 4000000 in
theorem b_M_resetBy_0_eq (f : Nat) (v0 : Nat) (v1 : Int32) (v2 : Int32) (v3 : Int32) (m : Mm) : b_M_resetBy_0 (f + 1) v0 v1 v2 v3 m =
    (ab_ix v2 8).bind fun i1 =>
    if (m.1 146 (v0 + 14) i1) < v3 then
      some (.inl (some (.inl (3 : Int32)), m))
    else
      (ab_ix v2 8).bind fun i2 =>
      if v3 ≤ (m.1 143 (v0 + 11) i2) then
        (ab_ix v2 8).bind fun i3 =>
        b_M_resetBy_33 f v0 v1 v2 v3 v0 v1 v2 (m.1 143 (v0 + 11) i3) m
      else
        b_M_resetBy_33 f v0 v1 v2 v3 v0 v1 v2 v3 m := rfl
set_option maxRecDepth 100000 in
set_option maxHeartbeats 4000000 in
theorem b_M_resetBy_33_eq (f : Nat) (v0 : Nat) (v1 : Int32) (v2 : Int32) (v3 : Int32) (u0 : Nat) (u1 : Int32) (u2 : Int32) (u3 : Int32) (m : Mm) : b_M_resetBy_33 (f + 1) v0 v1 v2 v3 u0 u1 u2 u3 m =
    (r_M_isBeyond u0 u1 u2 u3 m).bind fun z1 =>
    if z1.1 = 0 then
      (ab_ix v2 8).bind fun i2 =>
      if v3 < (z1.2.1 143 (v0 + 11) i2) then
        some (.inl (some (.inl (4 : Int32)), z1.2))
      else
        (ab_ix v2 8).bind fun i3 =>
        if (z1.2.1 144 (v0 + 12) i3) < 0 then
          b_M_resetBy_72 f v0 v1 v2 v3 z1.2
        else
          (ab_ix v2 8).bind fun i4 =>
          if v3 = (z1.2.1 144 (v0 + 12) i4) then
            b_M_resetBy_72 f v0 v1 v2 v3 z1.2
          else
            some (.inl (some (.inl (4 : Int32)), z1.2))
    else
      some (.inl (some (.inl (3 : Int32)), z1.2)) := rfl
set_option maxRecDepth 100000 in
set_option maxHeartbeats 4000000 in
theorem b_M_resetBy_72_eq (f : Nat) (v0 : Nat) (v1 : Int32) (v2 : Int32) (v3 : Int32) (m : Mm) : b_M_resetBy_72 (f + 1) v0 v1 v2 v3 m =
    (ab_ix v2 8).bind fun i1 =>
    (ab_bo (1 : Int32)).bind fun y3 =>
    ab_let (ab_uI m 147 (v0 + 15) i1 y3) fun m2 =>
    (ab_ix v2 8).bind fun i4 =>
    ab_let (ab_uI m2 144 (v0 + 12) i4 v3) fun m5 =>
    (ab_ix v2 8).bind fun i6 =>
    ab_let (ab_uI m5 143 (v0 + 11) i6 v3) fun m7 =>
    (r_M_lookAll v0 v1 m7).bind fun m8 =>
    some (.inl (some (.inl (0 : Int32)), m8)) := rfl
noncomputable def r_M_resetBy : Nat → Int32 → Int32 → Int32 → Mm → Option (Int32 × Mm) := ab_seal fun v0 v1 v2 v3 m => ab_rI (b_M_resetBy_0 50000 v0 v1 v2 v3 m)
theorem r_M_resetBy_eq (v0 : Nat) (v1 : Int32) (v2 : Int32) (v3 : Int32) (m : Mm) : r_M_resetBy v0 v1 v2 v3 m = ab_rI (b_M_resetBy_0 50000 v0 v1 v2 v3 m) := by
  unfold r_M_resetBy
  rw [ab_seal_eq]
noncomputable def c_M_resetBy : List AV → Mm → Option (Int32 × Mm) := fun av m => match av with
  | [.inr (.inr (kv0, ov0)), .inl v1, .inl v2, .inl v3] => if kv0 = 28 then (ov0.bind fun v0 => r_M_resetBy v0 v1 v2 v3 m) else none
  | _ => none
theorem c_M_resetBy_inv {av : List AV} {m : Mm} {r : Int32 × Mm} (h : c_M_resetBy av m = some r) : ∃ (v0 : Nat) (v1 : Int32) (v2 : Int32) (v3 : Int32), av = [.inr (.inr (28, some v0)), .inl v1, .inl v2, .inl v3] ∧ r_M_resetBy v0 v1 v2 v3 m = some r := by
  unfold c_M_resetBy at h
  split at h
  · rename_i kv0 ov0 v1 v2 v3
    by_cases hkv0 : kv0 = 28
    case neg => rw [if_neg hkv0] at h; cases h
    rw [if_pos hkv0] at h
    subst hkv0
    obtain ⟨v0, hev0, h⟩ := Option.bind_eq_some_iff.mp h
    subst hev0
    exact ⟨v0, v1, v2, v3, rfl, h⟩
  · cases h
def cs_M_resetBy : List Nat := [33, 95]
set_option maxRecDepth 100000 in
theorem E_M_resetBy : ∀ (pc : Nat) (q : Ent), i_M_resetBy pc = some q → ab_E KT CL ab_gW "StreamTransportModel" "resetBy" (some .int) prog_12_method_35_code s_M_resetBy 4 pc q.1 q.2.1 q.2.2.1 q.2.2.2.1 q.2.2.2.2 := fun pc q hq =>
  ab_Eb_ok lc_M lj_M fl_M (fpn_M "resetBy") nw_M na_M nq_M (ab_tab_all (t := t_M_resetBy) (chk := fun pc q => ab_Eb (some .int) prog_12_method_35_code s_M_resetBy 4 LC_M LJ_M FL_M FPn_M NW_M NA_M NQ_M pc q.1 q.2.1 q.2.2.1 q.2.2.2.1 q.2.2.2.2) (by decide +kernel) hq)
set_option maxRecDepth 100000 in
theorem kp_M_resetBy {av : List AV} {m : Mm} {r : Int32 × Mm} (h : c_M_resetBy av m = some r) : ab_kp m r.2 := by
  obtain ⟨v0, v1, v2, v3, -, h⟩ := c_M_resetBy_inv h
  rw [r_M_resetBy_eq] at h
  have hV : ∀ a av m m', eV_M_resetBy a av m = some m' → ab_kp m m' := ab_ev_all (P := fun _ m r => ab_kp m r) [(108, c_M_lookAll)] (List.forall_mem_cons.mpr ⟨fun av m r h => kp_M_lookAll h, fun q hq => by cases hq⟩)
  have hI : ∀ a av m q, eI_M_resetBy a av m = some q → ab_kp m q.2 := ab_ev_all (P := fun _ (m : Mm) (r : Int32 × Mm) => ab_kp m r.2) [(131, c_M_isBeyond)] (List.forall_mem_cons.mpr ⟨fun av m r h => kp_M_isBeyond h, fun q hq => by cases hq⟩)
  exact ab_kprel (ρ := .inl (some (.inl r.1), r.2)) (ab_tab_isn (t := t_M_resetBy) (by decide +kernel)) hV hI (ab_rI_inv h)
set_option maxRecDepth 100000 in
theorem cl_M_resetBy (l : Launch) : ∀ (pc : Nat) (q : Ent), i_M_resetBy pc = some q → ab_inv q.1 = true → ab_CR l KT CL none ab_gW "StreamTransportModel" prog_12_method_35_code 4 2 45 eV_M_resetBy eI_M_resetBy pc q := by
  intro pc q hq hi
  have hm : pc ∈ cs_M_resetBy := ab_tab_cs (t := t_M_resetBy) (by decide +kernel) hq hi
  simp only [cs_M_resetBy, List.mem_cons, List.not_mem_nil, or_false] at hm
  rcases hm with rfl | rfl
  · cases (Option.some.inj hq : ((.invokevirtual 251, 131, 4, 1, 0) : Ent) = q)
    exact ab_crV (C := "StreamTransportModel") (by decide +kernel) cw_M_isBeyond (ab_gW_in 1290 (by decide +kernel) rfl) is_M_isBeyond sl_M_isBeyond (by decide) (fun av m m' h => by cases h) (fun av m r h => cm_M_isBeyond l h) KT_nd
  · cases (Option.some.inj hq : ((.invokevirtual 155, 108, 2, 0, 0) : Ent) = q)
    exact ab_crV (C := "StreamTransportModel") (by decide +kernel) cw_M_lookAll (ab_gW_in 1178 (by decide +kernel) rfl) is_M_lookAll sl_M_lookAll (by decide) (fun av m m' h => cm_M_lookAll l h) (fun av m r h => by cases h) KT_nd
theorem cw_M_resetBy : ab_cw y_M_resetBy prog_12_method_35_code 4 3 (some .int) := ⟨ab_gW_in 1297 (by decide +kernel) rfl, ab_gW_in 71 (by decide +kernel) rfl, by decide +kernel, by decide +kernel, by decide +kernel⟩
theorem is_M_resetBy : Cond.instanceMethod y_M_resetBy ∈ ab_gW := ab_gW_in 1296 (by decide +kernel) rfl
theorem sl_M_resetBy : Cond.selects "StreamTransportModel" y_M_resetBy y_M_resetBy ∈ ab_gW := ab_gW_in 57 (by decide +kernel) rfl
set_option maxRecDepth 100000 in
theorem cm_M_resetBy (l : Launch) {av : List AV} {m : Mm} {r : Int32 × Mm} (h0 : c_M_resetBy av m = some r) : ∃ (k q : Nat) (av' : List AV) (ci : Nat) (fs : List (Nat × Nat × Nat × Nat)) (z : vw_C), av = .inr (.inr (k, some q)) :: av' ∧ av'.length = 3 ∧ k ≠ 0 ∧ KT[k]? = some (.inl (ci, fs)) ∧ CL[ci]? = some z ∧ z.1 = "StreamTransportModel" ∧ ab_nos av' ∧ ab_Met l KT CL y_M_resetBy (Cond.code y_M_resetBy prog_12_method_35_code 4 (some .int) :: ab_gW) 2 45 none av m (some (.inl r.1)) r.2 := by
  obtain ⟨v0, v1, v2, v3, hav, h⟩ := c_M_resetBy_inv h0
  rw [r_M_resetBy_eq] at h
  have hmo : ab_mo m r.2 := ab_kp_mo (kp_M_resetBy h0)
  subst hav
  exact ⟨_, _, _, _, _, _, rfl, rfl, by decide, rfl, rfl, rfl, (by intro v hv q e; subst e; simp at hv), ab_met (by decide +kernel) KT_0 KT_nd KT_k3 E_M_resetBy (cl_M_resetBy l) hmo (Nat.le_of_ble_eq_true rfl) (ab_rI_inv h) (fun v hv => by cases hv; exact ⟨_, rfl⟩)⟩
/-! StreamTransportModel.ack(I)I -/
def y_M_ack : MethodName := ⟨"StreamTransportModel", "ack", "(I)I"⟩
def t_M_ack (pc : Nat) : Option Ent :=
  bif Nat.blt pc 160 then
    (bif Nat.blt pc 76 then
      (bif Nat.blt pc 36 then
        (bif Nat.blt pc 20 then
          (bif Nat.blt pc 9 then
            (bif Nat.blt pc 4 then
              (bif Nat.blt pc 1 then
                (bif Nat.beq pc 0 then some (.aload_n 0, 0, 0, 0, 0) else none)
              else
                bif Nat.beq pc 1 then some (.invokevirtual 240, 129, 1, 1, 0) else none)
            else
              bif Nat.blt pc 5 then
                (bif Nat.beq pc 4 then some (.istore_n 2, 2, 0, 0, 0) else none)
              else
                bif Nat.blt pc 6 then
                  (bif Nat.beq pc 5 then some (.aload_n 0, 0, 0, 0, 0) else none)
                else
                  bif Nat.beq pc 6 then some (.invokevirtual 240, 129, 1, 1, 0) else none)
          else
            bif Nat.blt pc 14 then
              (bif Nat.blt pc 10 then
                (bif Nat.beq pc 9 then some (.istore_n 3, 3, 0, 0, 0) else none)
              else
                bif Nat.blt pc 11 then
                  (bif Nat.beq pc 10 then some (.aload_n 0, 0, 0, 0, 0) else none)
                else
                  bif Nat.beq pc 11 then some (.invokevirtual 240, 129, 1, 1, 0) else none)
            else
              bif Nat.blt pc 16 then
                (bif Nat.beq pc 14 then some (.istore 4, 4, 0, 0, 0) else none)
              else
                bif Nat.blt pc 17 then
                  (bif Nat.beq pc 16 then some (.aload_n 0, 0, 0, 0, 0) else none)
                else
                  bif Nat.beq pc 17 then some (.getfield 226, 10, 46, 0, 0) else none)
        else
          bif Nat.blt pc 30 then
            (bif Nat.blt pc 25 then
              (bif Nat.blt pc 23 then
                (bif Nat.beq pc 20 then some (.ifCond .ne (9), 29, 0, 0, 0) else none)
              else
                bif Nat.beq pc 23 then some (.iload 4, 4, 0, 0, 0) else none)
            else
              bif Nat.blt pc 26 then
                (bif Nat.beq pc 25 then some (.iconst 2, 0, 0, 0, 2) else none)
              else
                bif Nat.blt pc 29 then
                  (bif Nat.beq pc 26 then some (.if_icmp .le (5), 31, 0, 0, 0) else none)
                else
                  bif Nat.beq pc 29 then some (.iconst 1, 0, 0, 0, 1) else none)
          else
            bif Nat.blt pc 33 then
              (bif Nat.blt pc 31 then
                (bif Nat.beq pc 30 then some (.ireturn, 0, 0, 0, 0) else none)
              else
                bif Nat.blt pc 32 then
                  (bif Nat.beq pc 31 then some (.iload_n 2, 2, 0, 0, 0) else none)
                else
                  bif Nat.beq pc 32 then some (.i2l, 0, 0, 0, 0) else none)
            else
              bif Nat.blt pc 34 then
                (bif Nat.beq pc 33 then some (.iload_n 3, 3, 0, 0, 0) else none)
              else
                bif Nat.blt pc 35 then
                  (bif Nat.beq pc 34 then some (.i2l, 0, 0, 0, 0) else none)
                else
                  bif Nat.beq pc 35 then some (.lsub, 0, 0, 0, 0) else none)
      else
        bif Nat.blt pc 56 then
          (bif Nat.blt pc 45 then
            (bif Nat.blt pc 40 then
              (bif Nat.blt pc 38 then
                (bif Nat.beq pc 36 then some (.lstore 5, 5, 0, 0, 0) else none)
              else
                bif Nat.beq pc 38 then some (.lload 5, 5, 0, 0, 0) else none)
            else
              bif Nat.blt pc 41 then
                (bif Nat.beq pc 40 then some (.lconst 0, 0, 0, 0, 0) else none)
              else
                bif Nat.blt pc 42 then
                  (bif Nat.beq pc 41 then some (.lcmp, 0, 0, 0, 0) else none)
                else
                  bif Nat.beq pc 42 then some (.ifCond .ge (7), 49, 0, 0, 0) else none)
          else
            bif Nat.blt pc 50 then
              (bif Nat.blt pc 46 then
                (bif Nat.beq pc 45 then some (.iconst 1, 0, 0, 0, 1) else none)
              else
                bif Nat.blt pc 49 then
                  (bif Nat.beq pc 46 then some (.goto 4, 50, 0, 0, 0) else none)
                else
                  bif Nat.beq pc 49 then some (.iconst 0, 0, 0, 0, 0) else none)
            else
              bif Nat.blt pc 52 then
                (bif Nat.beq pc 50 then some (.istore 7, 7, 0, 0, 0) else none)
              else
                bif Nat.blt pc 53 then
                  (bif Nat.beq pc 52 then some (.aload_n 0, 0, 0, 0, 0) else none)
                else
                  bif Nat.beq pc 53 then some (.getfield 122, 10, 47, 1, 0) else none)
        else
          bif Nat.blt pc 64 then
            (bif Nat.blt pc 59 then
              (bif Nat.blt pc 57 then
                (bif Nat.beq pc 56 then some (.iconst 0, 0, 0, 0, 0) else none)
              else
                bif Nat.blt pc 58 then
                  (bif Nat.beq pc 57 then some (.iload_n 2, 2, 0, 0, 0) else none)
                else
                  bif Nat.beq pc 58 then some (.iastore, 0, 0, 0, 0) else none)
            else
              bif Nat.blt pc 60 then
                (bif Nat.beq pc 59 then some (.aload_n 0, 0, 0, 0, 0) else none)
              else
                bif Nat.blt pc 63 then
                  (bif Nat.beq pc 60 then some (.getfield 125, 10, 48, 1, 0) else none)
                else
                  bif Nat.beq pc 63 then some (.iconst 0, 0, 0, 0, 0) else none)
          else
            bif Nat.blt pc 70 then
              (bif Nat.blt pc 66 then
                (bif Nat.beq pc 64 then some (.iload 7, 7, 0, 0, 0) else none)
              else
                bif Nat.blt pc 69 then
                  (bif Nat.beq pc 66 then some (.ifCond .eq (7), 73, 0, 0, 0) else none)
                else
                  bif Nat.beq pc 69 then some (.iconst 0, 0, 0, 0, 0) else none)
            else
              bif Nat.blt pc 73 then
                (bif Nat.beq pc 70 then some (.goto 6, 76, 0, 0, 0) else none)
              else
                bif Nat.blt pc 75 then
                  (bif Nat.beq pc 73 then some (.lload 5, 5, 0, 0, 0) else none)
                else
                  bif Nat.beq pc 75 then some (.l2i, 0, 0, 0, 0) else none)
    else
      bif Nat.blt pc 116 then
        (bif Nat.blt pc 95 then
          (bif Nat.blt pc 84 then
            (bif Nat.blt pc 78 then
              (bif Nat.blt pc 77 then
                (bif Nat.beq pc 76 then some (.iastore, 0, 0, 0, 0) else none)
              else
                bif Nat.beq pc 77 then some (.iconst 1, 0, 0, 0, 1) else none)
            else
              bif Nat.blt pc 80 then
                (bif Nat.beq pc 78 then some (.istore 8, 8, 0, 0, 0) else none)
              else
                bif Nat.blt pc 82 then
                  (bif Nat.beq pc 80 then some (.iload 8, 8, 0, 0, 0) else none)
                else
                  bif Nat.beq pc 82 then some (.iload 4, 4, 0, 0, 0) else none)
          else
            bif Nat.blt pc 90 then
              (bif Nat.blt pc 87 then
                (bif Nat.beq pc 84 then some (.if_icmp .gt (90), 174, 0, 0, 0) else none)
              else
                bif Nat.blt pc 89 then
                  (bif Nat.beq pc 87 then some (.lload 5, 5, 0, 0, 0) else none)
                else
                  bif Nat.beq pc 89 then some (.aload_n 0, 0, 0, 0, 0) else none)
            else
              bif Nat.blt pc 93 then
                (bif Nat.beq pc 90 then some (.invokevirtual 240, 129, 1, 1, 0) else none)
              else
                bif Nat.blt pc 94 then
                  (bif Nat.beq pc 93 then some (.i2l, 0, 0, 0, 0) else none)
                else
                  bif Nat.beq pc 94 then some (.lsub, 0, 0, 0, 0) else none)
        else
          bif Nat.blt pc 104 then
            (bif Nat.blt pc 99 then
              (bif Nat.blt pc 98 then
                (bif Nat.beq pc 95 then some (.ldc2_w 254, 2, 0, 0, 0) else none)
              else
                bif Nat.beq pc 98 then some (.lsub, 0, 0, 0, 0) else none)
            else
              bif Nat.blt pc 101 then
                (bif Nat.beq pc 99 then some (.lstore 9, 9, 0, 0, 0) else none)
              else
                bif Nat.blt pc 103 then
                  (bif Nat.beq pc 101 then some (.lload 9, 9, 0, 0, 0) else none)
                else
                  bif Nat.beq pc 103 then some (.aload_n 0, 0, 0, 0, 0) else none)
          else
            bif Nat.blt pc 109 then
              (bif Nat.blt pc 107 then
                (bif Nat.beq pc 104 then some (.invokevirtual 240, 129, 1, 1, 0) else none)
              else
                bif Nat.blt pc 108 then
                  (bif Nat.beq pc 107 then some (.i2l, 0, 0, 0, 0) else none)
                else
                  bif Nat.beq pc 108 then some (.lsub, 0, 0, 0, 0) else none)
            else
              bif Nat.blt pc 111 then
                (bif Nat.beq pc 109 then some (.lstore 5, 5, 0, 0, 0) else none)
              else
                bif Nat.blt pc 113 then
                  (bif Nat.beq pc 111 then some (.iload 7, 7, 0, 0, 0) else none)
                else
                  bif Nat.beq pc 113 then some (.ifCond .ne (10), 123, 0, 0, 0) else none)
      else
        bif Nat.blt pc 136 then
          (bif Nat.blt pc 124 then
            (bif Nat.blt pc 119 then
              (bif Nat.blt pc 118 then
                (bif Nat.beq pc 116 then some (.lload 5, 5, 0, 0, 0) else none)
              else
                bif Nat.beq pc 118 then some (.lconst 0, 0, 0, 0, 0) else none)
            else
              bif Nat.blt pc 120 then
                (bif Nat.beq pc 119 then some (.lcmp, 0, 0, 0, 0) else none)
              else
                bif Nat.blt pc 123 then
                  (bif Nat.beq pc 120 then some (.ifCond .ge (7), 127, 0, 0, 0) else none)
                else
                  bif Nat.beq pc 123 then some (.iconst 1, 0, 0, 0, 1) else none)
          else
            bif Nat.blt pc 130 then
              (bif Nat.blt pc 127 then
                (bif Nat.beq pc 124 then some (.goto 4, 128, 0, 0, 0) else none)
              else
                bif Nat.blt pc 128 then
                  (bif Nat.beq pc 127 then some (.iconst 0, 0, 0, 0, 0) else none)
                else
                  bif Nat.beq pc 128 then some (.istore 7, 7, 0, 0, 0) else none)
            else
              bif Nat.blt pc 131 then
                (bif Nat.beq pc 130 then some (.aload_n 0, 0, 0, 0, 0) else none)
              else
                bif Nat.blt pc 134 then
                  (bif Nat.beq pc 131 then some (.getfield 122, 10, 47, 1, 0) else none)
                else
                  bif Nat.beq pc 134 then some (.iload 8, 8, 0, 0, 0) else none)
        else
          bif Nat.blt pc 148 then
            (bif Nat.blt pc 142 then
              (bif Nat.blt pc 138 then
                (bif Nat.beq pc 136 then some (.iload 7, 7, 0, 0, 0) else none)
              else
                bif Nat.blt pc 141 then
                  (bif Nat.beq pc 138 then some (.ifCond .eq (7), 145, 0, 0, 0) else none)
                else
                  bif Nat.beq pc 141 then some (.iconst (-1), 0, 0, 0, -1) else none)
            else
              bif Nat.blt pc 145 then
                (bif Nat.beq pc 142 then some (.goto 6, 148, 0, 0, 0) else none)
              else
                bif Nat.blt pc 147 then
                  (bif Nat.beq pc 145 then some (.lload 9, 9, 0, 0, 0) else none)
                else
                  bif Nat.beq pc 147 then some (.l2i, 0, 0, 0, 0) else none)
          else
            bif Nat.blt pc 153 then
              (bif Nat.blt pc 149 then
                (bif Nat.beq pc 148 then some (.iastore, 0, 0, 0, 0) else none)
              else
                bif Nat.blt pc 150 then
                  (bif Nat.beq pc 149 then some (.aload_n 0, 0, 0, 0, 0) else none)
                else
                  bif Nat.beq pc 150 then some (.getfield 125, 10, 48, 1, 0) else none)
            else
              bif Nat.blt pc 155 then
                (bif Nat.beq pc 153 then some (.iload 8, 8, 0, 0, 0) else none)
              else
                bif Nat.blt pc 157 then
                  (bif Nat.beq pc 155 then some (.iload 7, 7, 0, 0, 0) else none)
                else
                  bif Nat.beq pc 157 then some (.ifCond .eq (7), 164, 0, 0, 0) else none)
  else
    bif Nat.blt pc 243 then
      (bif Nat.blt pc 200 then
        (bif Nat.blt pc 182 then
          (bif Nat.blt pc 168 then
            (bif Nat.blt pc 164 then
              (bif Nat.blt pc 161 then
                (bif Nat.beq pc 160 then some (.iconst 0, 0, 0, 0, 0) else none)
              else
                bif Nat.beq pc 161 then some (.goto 6, 167, 0, 0, 0) else none)
            else
              bif Nat.blt pc 166 then
                (bif Nat.beq pc 164 then some (.lload 5, 5, 0, 0, 0) else none)
              else
                bif Nat.blt pc 167 then
                  (bif Nat.beq pc 166 then some (.l2i, 0, 0, 0, 0) else none)
                else
                  bif Nat.beq pc 167 then some (.iastore, 0, 0, 0, 0) else none)
          else
            bif Nat.blt pc 175 then
              (bif Nat.blt pc 171 then
                (bif Nat.beq pc 168 then some (.iinc 8 1, 8, 0, 0, 1) else none)
              else
                bif Nat.blt pc 174 then
                  (bif Nat.beq pc 171 then some (.goto (-91), 80, 0, 0, 0) else none)
                else
                  bif Nat.beq pc 174 then some (.aload_n 0, 0, 0, 0, 0) else none)
            else
              bif Nat.blt pc 178 then
                (bif Nat.beq pc 175 then some (.getfield 226, 10, 46, 0, 0) else none)
              else
                bif Nat.blt pc 181 then
                  (bif Nat.beq pc 178 then some (.ifCond .eq (5), 183, 0, 0, 0) else none)
                else
                  bif Nat.beq pc 181 then some (.iconst 1, 0, 0, 0, 1) else none)
        else
          bif Nat.blt pc 189 then
            (bif Nat.blt pc 184 then
              (bif Nat.blt pc 183 then
                (bif Nat.beq pc 182 then some (.ireturn, 0, 0, 0, 0) else none)
              else
                bif Nat.beq pc 183 then some (.iload_n 2, 2, 0, 0, 0) else none)
            else
              bif Nat.blt pc 185 then
                (bif Nat.beq pc 184 then some (.aload_n 0, 0, 0, 0, 0) else none)
              else
                bif Nat.blt pc 188 then
                  (bif Nat.beq pc 185 then some (.getfield 65, 10, 22, 1, 0) else none)
                else
                  bif Nat.beq pc 188 then some (.iload_n 1, 1, 0, 0, 0) else none)
          else
            bif Nat.blt pc 195 then
              (bif Nat.blt pc 190 then
                (bif Nat.beq pc 189 then some (.iaload, 0, 0, 0, 0) else none)
              else
                bif Nat.blt pc 193 then
                  (bif Nat.beq pc 190 then some (.if_icmp .ge (8), 198, 0, 0, 0) else none)
                else
                  bif Nat.beq pc 193 then some (.iload 7, 7, 0, 0, 0) else none)
            else
              bif Nat.blt pc 198 then
                (bif Nat.beq pc 195 then some (.ifCond .eq (5), 200, 0, 0, 0) else none)
              else
                bif Nat.blt pc 199 then
                  (bif Nat.beq pc 198 then some (.iconst 5, 0, 0, 0, 5) else none)
                else
                  bif Nat.beq pc 199 then some (.ireturn, 0, 0, 0, 0) else none)
      else
        bif Nat.blt pc 221 then
          (bif Nat.blt pc 210 then
            (bif Nat.blt pc 203 then
              (bif Nat.blt pc 201 then
                (bif Nat.beq pc 200 then some (.iconst 0, 0, 0, 0, 0) else none)
              else
                bif Nat.beq pc 201 then some (.istore 8, 8, 0, 0, 0) else none)
            else
              bif Nat.blt pc 205 then
                (bif Nat.beq pc 203 then some (.iload 8, 8, 0, 0, 0) else none)
              else
                bif Nat.blt pc 207 then
                  (bif Nat.beq pc 205 then some (.iload 4, 4, 0, 0, 0) else none)
                else
                  bif Nat.beq pc 207 then some (.if_icmp .gt (65), 272, 0, 0, 0) else none)
          else
            bif Nat.blt pc 216 then
              (bif Nat.blt pc 211 then
                (bif Nat.beq pc 210 then some (.aload_n 0, 0, 0, 0, 0) else none)
              else
                bif Nat.blt pc 214 then
                  (bif Nat.beq pc 211 then some (.getfield 125, 10, 48, 1, 0) else none)
                else
                  bif Nat.beq pc 214 then some (.iload 8, 8, 0, 0, 0) else none)
            else
              bif Nat.blt pc 217 then
                (bif Nat.beq pc 216 then some (.iaload, 0, 0, 0, 0) else none)
              else
                bif Nat.blt pc 219 then
                  (bif Nat.beq pc 217 then some (.istore 9, 9, 0, 0, 0) else none)
                else
                  bif Nat.beq pc 219 then some (.iload 9, 9, 0, 0, 0) else none)
        else
          bif Nat.blt pc 232 then
            (bif Nat.blt pc 227 then
              (bif Nat.blt pc 222 then
                (bif Nat.beq pc 221 then some (.aload_n 0, 0, 0, 0, 0) else none)
              else
                bif Nat.blt pc 225 then
                  (bif Nat.beq pc 222 then some (.getfield 122, 10, 47, 1, 0) else none)
                else
                  bif Nat.beq pc 225 then some (.iload 8, 8, 0, 0, 0) else none)
            else
              bif Nat.blt pc 228 then
                (bif Nat.beq pc 227 then some (.iaload, 0, 0, 0, 0) else none)
              else
                bif Nat.blt pc 231 then
                  (bif Nat.beq pc 228 then some (.if_icmp .gt (38), 266, 0, 0, 0) else none)
                else
                  bif Nat.beq pc 231 then some (.aload_n 0, 0, 0, 0, 0) else none)
          else
            bif Nat.blt pc 239 then
              (bif Nat.blt pc 235 then
                (bif Nat.beq pc 232 then some (.getfield 98, 10, 33, 1, 0) else none)
              else
                bif Nat.blt pc 238 then
                  (bif Nat.beq pc 235 then some (.sipush 560, 0, 0, 0, 560) else none)
                else
                  bif Nat.beq pc 238 then some (.iload_n 1, 1, 0, 0, 0) else none)
            else
              bif Nat.blt pc 240 then
                (bif Nat.beq pc 239 then some (.imul, 0, 0, 0, 0) else none)
              else
                bif Nat.blt pc 242 then
                  (bif Nat.beq pc 240 then some (.iload 9, 9, 0, 0, 0) else none)
                else
                  bif Nat.beq pc 242 then some (.iadd, 0, 0, 0, 0) else none)
    else
      bif Nat.blt pc 284 then
        (bif Nat.blt pc 263 then
          (bif Nat.blt pc 252 then
            (bif Nat.blt pc 247 then
              (bif Nat.blt pc 244 then
                (bif Nat.beq pc 243 then some (.iaload, 0, 0, 0, 0) else none)
              else
                bif Nat.beq pc 244 then some (.ifCond .ne (16), 260, 0, 0, 0) else none)
            else
              bif Nat.blt pc 248 then
                (bif Nat.beq pc 247 then some (.aload_n 0, 0, 0, 0, 0) else none)
              else
                bif Nat.blt pc 249 then
                  (bif Nat.beq pc 248 then some (.iload_n 1, 1, 0, 0, 0) else none)
                else
                  bif Nat.beq pc 249 then some (.sipush 560, 0, 0, 0, 560) else none)
          else
            bif Nat.blt pc 256 then
              (bif Nat.blt pc 253 then
                (bif Nat.beq pc 252 then some (.iload_n 1, 1, 0, 0, 0) else none)
              else
                bif Nat.blt pc 254 then
                  (bif Nat.beq pc 253 then some (.imul, 0, 0, 0, 0) else none)
                else
                  bif Nat.beq pc 254 then some (.iload 9, 9, 0, 0, 0) else none)
            else
              bif Nat.blt pc 257 then
                (bif Nat.beq pc 256 then some (.iadd, 0, 0, 0, 0) else none)
              else
                bif Nat.blt pc 260 then
                  (bif Nat.beq pc 257 then some (.invokevirtual 256, 127, 3, 0, 0) else none)
                else
                  bif Nat.beq pc 260 then some (.iinc 9 1, 9, 0, 0, 1) else none)
        else
          bif Nat.blt pc 275 then
            (bif Nat.blt pc 269 then
              (bif Nat.blt pc 266 then
                (bif Nat.beq pc 263 then some (.goto (-44), 219, 0, 0, 0) else none)
              else
                bif Nat.beq pc 266 then some (.iinc 8 1, 8, 0, 0, 1) else none)
            else
              bif Nat.blt pc 272 then
                (bif Nat.beq pc 269 then some (.goto (-66), 203, 0, 0, 0) else none)
              else
                bif Nat.blt pc 273 then
                  (bif Nat.beq pc 272 then some (.iconst 0, 0, 0, 0, 0) else none)
                else
                  bif Nat.beq pc 273 then some (.istore 8, 8, 0, 0, 0) else none)
          else
            bif Nat.blt pc 281 then
              (bif Nat.blt pc 277 then
                (bif Nat.beq pc 275 then some (.iload 8, 8, 0, 0, 0) else none)
              else
                bif Nat.blt pc 278 then
                  (bif Nat.beq pc 277 then some (.aload_n 0, 0, 0, 0, 0) else none)
                else
                  bif Nat.beq pc 278 then some (.getfield 71, 10, 24, 1, 0) else none)
            else
              bif Nat.blt pc 282 then
                (bif Nat.beq pc 281 then some (.iload_n 1, 1, 0, 0, 0) else none)
              else
                bif Nat.blt pc 283 then
                  (bif Nat.beq pc 282 then some (.iaload, 0, 0, 0, 0) else none)
                else
                  bif Nat.beq pc 283 then some (.iconst 3, 0, 0, 0, 3) else none)
      else
        bif Nat.blt pc 304 then
          (bif Nat.blt pc 295 then
            (bif Nat.blt pc 288 then
              (bif Nat.blt pc 285 then
                (bif Nat.beq pc 284 then some (.isub, 0, 0, 0, 0) else none)
              else
                bif Nat.beq pc 285 then some (.if_icmp .gt (38), 323, 0, 0, 0) else none)
            else
              bif Nat.blt pc 289 then
                (bif Nat.beq pc 288 then some (.aload_n 0, 0, 0, 0, 0) else none)
              else
                bif Nat.blt pc 292 then
                  (bif Nat.beq pc 289 then some (.getfield 98, 10, 33, 1, 0) else none)
                else
                  bif Nat.beq pc 292 then some (.sipush 560, 0, 0, 0, 560) else none)
          else
            bif Nat.blt pc 299 then
              (bif Nat.blt pc 296 then
                (bif Nat.beq pc 295 then some (.iload_n 1, 1, 0, 0, 0) else none)
              else
                bif Nat.blt pc 297 then
                  (bif Nat.beq pc 296 then some (.imul, 0, 0, 0, 0) else none)
                else
                  bif Nat.beq pc 297 then some (.iload 8, 8, 0, 0, 0) else none)
            else
              bif Nat.blt pc 300 then
                (bif Nat.beq pc 299 then some (.iadd, 0, 0, 0, 0) else none)
              else
                bif Nat.blt pc 301 then
                  (bif Nat.beq pc 300 then some (.iaload, 0, 0, 0, 0) else none)
                else
                  bif Nat.beq pc 301 then some (.ifCond .ne (16), 317, 0, 0, 0) else none)
        else
          bif Nat.blt pc 313 then
            (bif Nat.blt pc 309 then
              (bif Nat.blt pc 305 then
                (bif Nat.beq pc 304 then some (.aload_n 0, 0, 0, 0, 0) else none)
              else
                bif Nat.blt pc 306 then
                  (bif Nat.beq pc 305 then some (.iload_n 1, 1, 0, 0, 0) else none)
                else
                  bif Nat.beq pc 306 then some (.sipush 560, 0, 0, 0, 560) else none)
            else
              bif Nat.blt pc 310 then
                (bif Nat.beq pc 309 then some (.iload_n 1, 1, 0, 0, 0) else none)
              else
                bif Nat.blt pc 311 then
                  (bif Nat.beq pc 310 then some (.imul, 0, 0, 0, 0) else none)
                else
                  bif Nat.beq pc 311 then some (.iload 8, 8, 0, 0, 0) else none)
          else
            bif Nat.blt pc 320 then
              (bif Nat.blt pc 314 then
                (bif Nat.beq pc 313 then some (.iadd, 0, 0, 0, 0) else none)
              else
                bif Nat.blt pc 317 then
                  (bif Nat.beq pc 314 then some (.invokevirtual 259, 128, 3, 0, 0) else none)
                else
                  bif Nat.beq pc 317 then some (.iinc 8 1, 8, 0, 0, 1) else none)
            else
              bif Nat.blt pc 323 then
                (bif Nat.beq pc 320 then some (.goto (-45), 275, 0, 0, 0) else none)
              else
                bif Nat.blt pc 324 then
                  (bif Nat.beq pc 323 then some (.iconst 0, 0, 0, 0, 0) else none)
                else
                  bif Nat.beq pc 324 then some (.ireturn, 0, 0, 0, 0) else none
def i_M_ack : Nat → Option Ent := ab_tab 325 t_M_ack
def h_M_ack (pc : Nat) : Nat × List Bool := bif Nat.beq pc 50 then (1, [true, true, true, false, true, true, false, false, false, false, false]) else bif Nat.beq pc 76 then (1, [true, true, true, false, true, true, false, true, false, false, false]) else bif Nat.beq pc 80 then (1, [true, true, true, false, true, true, false, true, true, false, false]) else bif Nat.beq pc 123 then (1, [true, true, true, false, true, true, false, false, true, true, false]) else bif Nat.beq pc 128 then (1, [true, true, true, false, true, true, false, false, true, true, false]) else bif Nat.beq pc 148 then (1, [true, true, true, false, true, true, false, true, true, false, false]) else bif Nat.beq pc 167 then (1, [true, true, true, false, true, true, false, true, true, false, false]) else bif Nat.beq pc 203 then (1, [true, true, false, false, true, false, false, false, true, false, false]) else bif Nat.beq pc 219 then (1, [true, true, false, false, true, false, false, false, true, true, false]) else bif Nat.beq pc 260 then (1, [true, true, false, false, true, false, false, false, true, true, false]) else bif Nat.beq pc 275 then (1, [true, true, false, false, false, false, false, false, true, false, false]) else bif Nat.beq pc 317 then (1, [true, true, false, false, false, false, false, false, true, false, false]) else (0, [])
def s_M_ack (pc : Nat) : List (Int32 × Nat) × Nat := ([], 0)
noncomputable def eV_M_ack : Nat → List AV → Mm → Option Mm := ab_ev [(127, c_M_acks), (128, c_M_loses)]
noncomputable def eI_M_ack : Nat → List AV → Mm → Option (Int32 × Mm) := ab_ev [(129, c_M_numberAt)]
noncomputable def b_M_ack_0 (f : Nat) (v0 : Nat) (v1 : Int32) (m : Mm) : Option Rs := ab_ex KT none s_M_ack eV_M_ack eI_M_ack i_M_ack h_M_ack f 0 [some (.inr (.inr (28, some v0))), some (.inl v1), none, none, none, none, none, none, none, none, none] [] m
noncomputable def b_M_ack_50 (f : Nat) (v0 : Nat) (v1 : Int32) (v2 : Int32) (v4 : Int32) (v5 : Int64) (u0 : Int32) (m : Mm) : Option Rs := ab_ex KT none s_M_ack eV_M_ack eI_M_ack i_M_ack h_M_ack f 50 [some (.inr (.inr (28, some v0))), some (.inl v1), some (.inl v2), none, some (.inl v4), some (.inr (.inl v5)), none, none, none, none, none] [.inl u0] m
noncomputable def b_M_ack_76 (f : Nat) (v0 : Nat) (v1 : Int32) (v2 : Int32) (v4 : Int32) (v5 : Int64) (v7 : Int32) (u0 : Nat) (u1 : Int32) (u2 : Int32) (m : Mm) : Option Rs := ab_ex KT none s_M_ack eV_M_ack eI_M_ack i_M_ack h_M_ack f 76 [some (.inr (.inr (28, some v0))), some (.inl v1), some (.inl v2), none, some (.inl v4), some (.inr (.inl v5)), none, some (.inl v7), none, none, none] [.inl u2, .inl u1, .inr (.inr (67, some u0))] m
noncomputable def b_M_ack_80 (f : Nat) (v0 : Nat) (v1 : Int32) (v2 : Int32) (v4 : Int32) (v5 : Int64) (v7 : Int32) (v8 : Int32) (m : Mm) : Option Rs := ab_ex KT none s_M_ack eV_M_ack eI_M_ack i_M_ack h_M_ack f 80 [some (.inr (.inr (28, some v0))), some (.inl v1), some (.inl v2), none, some (.inl v4), some (.inr (.inl v5)), none, some (.inl v7), some (.inl v8), none, none] [] m
noncomputable def b_M_ack_123 (f : Nat) (v0 : Nat) (v1 : Int32) (v2 : Int32) (v4 : Int32) (v5 : Int64) (v8 : Int32) (v9 : Int64) (m : Mm) : Option Rs := ab_ex KT none s_M_ack eV_M_ack eI_M_ack i_M_ack h_M_ack f 123 [some (.inr (.inr (28, some v0))), some (.inl v1), some (.inl v2), none, some (.inl v4), some (.inr (.inl v5)), none, none, some (.inl v8), some (.inr (.inl v9)), none] [] m
noncomputable def b_M_ack_128 (f : Nat) (v0 : Nat) (v1 : Int32) (v2 : Int32) (v4 : Int32) (v5 : Int64) (v8 : Int32) (v9 : Int64) (u0 : Int32) (m : Mm) : Option Rs := ab_ex KT none s_M_ack eV_M_ack eI_M_ack i_M_ack h_M_ack f 128 [some (.inr (.inr (28, some v0))), some (.inl v1), some (.inl v2), none, some (.inl v4), some (.inr (.inl v5)), none, none, some (.inl v8), some (.inr (.inl v9)), none] [.inl u0] m
noncomputable def b_M_ack_148 (f : Nat) (v0 : Nat) (v1 : Int32) (v2 : Int32) (v4 : Int32) (v5 : Int64) (v7 : Int32) (v8 : Int32) (u0 : Nat) (u1 : Int32) (u2 : Int32) (m : Mm) : Option Rs := ab_ex KT none s_M_ack eV_M_ack eI_M_ack i_M_ack h_M_ack f 148 [some (.inr (.inr (28, some v0))), some (.inl v1), some (.inl v2), none, some (.inl v4), some (.inr (.inl v5)), none, some (.inl v7), some (.inl v8), none, none] [.inl u2, .inl u1, .inr (.inr (66, some u0))] m
noncomputable def b_M_ack_167 (f : Nat) (v0 : Nat) (v1 : Int32) (v2 : Int32) (v4 : Int32) (v5 : Int64) (v7 : Int32) (v8 : Int32) (u0 : Nat) (u1 : Int32) (u2 : Int32) (m : Mm) : Option Rs := ab_ex KT none s_M_ack eV_M_ack eI_M_ack i_M_ack h_M_ack f 167 [some (.inr (.inr (28, some v0))), some (.inl v1), some (.inl v2), none, some (.inl v4), some (.inr (.inl v5)), none, some (.inl v7), some (.inl v8), none, none] [.inl u2, .inl u1, .inr (.inr (67, some u0))] m
noncomputable def b_M_ack_203 (f : Nat) (v0 : Nat) (v1 : Int32) (v4 : Int32) (v8 : Int32) (m : Mm) : Option Rs := ab_ex KT none s_M_ack eV_M_ack eI_M_ack i_M_ack h_M_ack f 203 [some (.inr (.inr (28, some v0))), some (.inl v1), none, none, some (.inl v4), none, none, none, some (.inl v8), none, none] [] m
noncomputable def b_M_ack_219 (f : Nat) (v0 : Nat) (v1 : Int32) (v4 : Int32) (v8 : Int32) (v9 : Int32) (m : Mm) : Option Rs := ab_ex KT none s_M_ack eV_M_ack eI_M_ack i_M_ack h_M_ack f 219 [some (.inr (.inr (28, some v0))), some (.inl v1), none, none, some (.inl v4), none, none, none, some (.inl v8), some (.inl v9), none] [] m
noncomputable def b_M_ack_260 (f : Nat) (v0 : Nat) (v1 : Int32) (v4 : Int32) (v8 : Int32) (v9 : Int32) (m : Mm) : Option Rs := ab_ex KT none s_M_ack eV_M_ack eI_M_ack i_M_ack h_M_ack f 260 [some (.inr (.inr (28, some v0))), some (.inl v1), none, none, some (.inl v4), none, none, none, some (.inl v8), some (.inl v9), none] [] m
noncomputable def b_M_ack_275 (f : Nat) (v0 : Nat) (v1 : Int32) (v8 : Int32) (m : Mm) : Option Rs := ab_ex KT none s_M_ack eV_M_ack eI_M_ack i_M_ack h_M_ack f 275 [some (.inr (.inr (28, some v0))), some (.inl v1), none, none, none, none, none, none, some (.inl v8), none, none] [] m
noncomputable def b_M_ack_317 (f : Nat) (v0 : Nat) (v1 : Int32) (v8 : Int32) (m : Mm) : Option Rs := ab_ex KT none s_M_ack eV_M_ack eI_M_ack i_M_ack h_M_ack f 317 [some (.inr (.inr (28, some v0))), some (.inl v1), none, none, none, none, none, none, some (.inl v8), none, none] [] m
set_option maxRecDepth 100000 in
set_option maxHeartbeats 4000000 in
theorem b_M_ack_0_eq (f : Nat) (v0 : Nat) (v1 : Int32) (m : Mm) : b_M_ack_0 (f + 1) v0 v1 m =
    (r_M_numberAt v0 m).bind fun z1 =>
    (r_M_numberAt v0 z1.2).bind fun z2 =>
    (r_M_numberAt v0 z2.2).bind fun z3 =>
    if (z3.2.1 127 v0 0) = 0 then
      if z3.1 ≤ (2 : Int32) then
        ab_let (((z1.1).toInt64 - (z2.1).toInt64)) fun w4 =>
        if 0 ≤ (lg_cmp w4 (Int64.ofNat 0)) then
          b_M_ack_50 f v0 v1 z1.1 z3.1 w4 (0 : Int32) z3.2
        else
          b_M_ack_50 f v0 v1 z1.1 z3.1 w4 (1 : Int32) z3.2
      else
        some (.inl (some (.inl (1 : Int32)), z3.2))
    else
      some (.inl (some (.inl (1 : Int32)), z3.2)) := rfl
set_option maxRecDepth 100000 in
set_option maxHeartbeats 4000000 in
theorem b_M_ack_50_eq (f : Nat) (v0 : Nat) (v1 : Int32) (v2 : Int32) (v4 : Int32) (v5 : Int64) (u0 : Int32) (m : Mm) : b_M_ack_50 (f + 1) v0 v1 v2 v4 v5 u0 m =
    (ab_ix (0 : Int32) 3).bind fun i1 =>
    ab_let (ab_uI m 170 (v0 + 38) i1 v2) fun m2 =>
    if u0 = 0 then
      b_M_ack_76 f v0 v1 v2 v4 v5 u0 (v0 + 39) (0 : Int32) ((v5).toInt32) m2
    else
      b_M_ack_76 f v0 v1 v2 v4 v5 u0 (v0 + 39) (0 : Int32) (0 : Int32) m2 := rfl
set_option maxRecDepth 100000 in
set_option maxHeartbeats 4000000 in
theorem b_M_ack_76_eq (f : Nat) (v0 : Nat) (v1 : Int32) (v2 : Int32) (v4 : Int32) (v5 : Int64) (v7 : Int32) (u0 : Nat) (u1 : Int32) (u2 : Int32) (m : Mm) : b_M_ack_76 (f + 1) v0 v1 v2 v4 v5 v7 u0 u1 u2 m =
    (ab_ix u1 3).bind fun i1 =>
    ab_let (ab_uI m 171 u0 i1 u2) fun m2 =>
    b_M_ack_80 f v0 v1 v2 v4 v5 v7 (1 : Int32) m2 := rfl
set_option maxRecDepth 100000 in
set_option maxHeartbeats 4000000 in
theorem b_M_ack_80_eq (f : Nat) (v0 : Nat) (v1 : Int32) (v2 : Int32) (v4 : Int32) (v5 : Int64) (v7 : Int32) (v8 : Int32) (m : Mm) : b_M_ack_80 (f + 1) v0 v1 v2 v4 v5 v7 v8 m =
    if v4 < v8 then
      if (m.1 127 v0 0) = 0 then
        (ab_ix v1 2).bind fun i1 =>
        if (m.1 151 (v0 + 19) i1) ≤ v2 then
          some (.inl (some (.inl (5 : Int32)), m))
        else
          if v7 = 0 then
            b_M_ack_203 f v0 v1 v4 (0 : Int32) m
          else
            some (.inl (some (.inl (5 : Int32)), m))
      else
        some (.inl (some (.inl (1 : Int32)), m))
    else
      (r_M_numberAt v0 m).bind fun z2 =>
      ab_let (((v5 - (z2.1).toInt64) - (Int64.ofNat 2))) fun w3 =>
      (r_M_numberAt v0 z2.2).bind fun z4 =>
      ab_let ((w3 - (z4.1).toInt64)) fun w5 =>
      if v7 = 0 then
        if 0 ≤ (lg_cmp w5 (Int64.ofNat 0)) then
          b_M_ack_128 f v0 v1 v2 v4 w5 v8 w3 (0 : Int32) z4.2
        else
          b_M_ack_123 f v0 v1 v2 v4 w5 v8 w3 z4.2
      else
        b_M_ack_123 f v0 v1 v2 v4 w5 v8 w3 z4.2 := rfl
set_option maxRecDepth 100000 in
set_option maxHeartbeats 4000000 in
theorem b_M_ack_123_eq (f : Nat) (v0 : Nat) (v1 : Int32) (v2 : Int32) (v4 : Int32) (v5 : Int64) (v8 : Int32) (v9 : Int64) (m : Mm) : b_M_ack_123 (f + 1) v0 v1 v2 v4 v5 v8 v9 m =
    b_M_ack_128 f v0 v1 v2 v4 v5 v8 v9 (1 : Int32) m := rfl
set_option maxRecDepth 100000 in
set_option maxHeartbeats 4000000 in
theorem b_M_ack_128_eq (f : Nat) (v0 : Nat) (v1 : Int32) (v2 : Int32) (v4 : Int32) (v5 : Int64) (v8 : Int32) (v9 : Int64) (u0 : Int32) (m : Mm) : b_M_ack_128 (f + 1) v0 v1 v2 v4 v5 v8 v9 u0 m =
    if u0 = 0 then
      b_M_ack_148 f v0 v1 v2 v4 v5 u0 v8 (v0 + 38) v8 ((v9).toInt32) m
    else
      b_M_ack_148 f v0 v1 v2 v4 v5 u0 v8 (v0 + 38) v8 (-1 : Int32) m := rfl
set_option maxRecDepth 100000 in
set_option maxHeartbeats 4000000 in
theorem b_M_ack_148_eq (f : Nat) (v0 : Nat) (v1 : Int32) (v2 : Int32) (v4 : Int32) (v5 : Int64) (v7 : Int32) (v8 : Int32) (u0 : Nat) (u1 : Int32) (u2 : Int32) (m : Mm) : b_M_ack_148 (f + 1) v0 v1 v2 v4 v5 v7 v8 u0 u1 u2 m =
    (ab_ix u1 3).bind fun i1 =>
    ab_let (ab_uI m 170 u0 i1 u2) fun m2 =>
    if v7 = 0 then
      b_M_ack_167 f v0 v1 v2 v4 v5 v7 v8 (v0 + 39) v8 ((v5).toInt32) m2
    else
      b_M_ack_167 f v0 v1 v2 v4 v5 v7 v8 (v0 + 39) v8 (0 : Int32) m2 := rfl
set_option maxRecDepth 100000 in
set_option maxHeartbeats 4000000 in
theorem b_M_ack_167_eq (f : Nat) (v0 : Nat) (v1 : Int32) (v2 : Int32) (v4 : Int32) (v5 : Int64) (v7 : Int32) (v8 : Int32) (u0 : Nat) (u1 : Int32) (u2 : Int32) (m : Mm) : b_M_ack_167 (f + 1) v0 v1 v2 v4 v5 v7 v8 u0 u1 u2 m =
    (ab_ix u1 3).bind fun i1 =>
    ab_let (ab_uI m 171 u0 i1 u2) fun m2 =>
    ab_let (v8 + (1 : Int32)) fun x3 =>
    b_M_ack_80 f v0 v1 v2 v4 v5 v7 x3 m2 := rfl
set_option maxRecDepth 100000 in
set_option maxHeartbeats 4000000 in
theorem b_M_ack_203_eq (f : Nat) (v0 : Nat) (v1 : Int32) (v4 : Int32) (v8 : Int32) (m : Mm) : b_M_ack_203 (f + 1) v0 v1 v4 v8 m =
    if v4 < v8 then
      b_M_ack_275 f v0 v1 (0 : Int32) m
    else
      (ab_ix v8 3).bind fun i1 =>
      ab_let ((m.1 171 (v0 + 39) i1)) fun x2 =>
      b_M_ack_219 f v0 v1 v4 v8 x2 m := rfl
set_option maxRecDepth 100000 in
set_option maxHeartbeats 4000000 in
theorem b_M_ack_219_eq (f : Nat) (v0 : Nat) (v1 : Int32) (v4 : Int32) (v8 : Int32) (v9 : Int32) (m : Mm) : b_M_ack_219 (f + 1) v0 v1 v4 v8 v9 m =
    (ab_ix v8 3).bind fun i1 =>
    if (m.1 170 (v0 + 38) i1) < v9 then
      ab_let (v8 + (1 : Int32)) fun x2 =>
      b_M_ack_203 f v0 v1 v4 x2 m
    else
      (ab_ix (((560 : Int32) * v1) + v9) 1120).bind fun i3 =>
      if (m.1 162 (v0 + 30) i3) = 0 then
        (r_M_acks v0 v1 (((560 : Int32) * v1) + v9) m).bind fun m4 =>
        b_M_ack_260 f v0 v1 v4 v8 v9 m4
      else
        b_M_ack_260 f v0 v1 v4 v8 v9 m := rfl
set_option maxRecDepth 100000 in
set_option maxHeartbeats 4000000 in
theorem b_M_ack_260_eq (f : Nat) (v0 : Nat) (v1 : Int32) (v4 : Int32) (v8 : Int32) (v9 : Int32) (m : Mm) : b_M_ack_260 (f + 1) v0 v1 v4 v8 v9 m =
    ab_let (v9 + (1 : Int32)) fun x1 =>
    b_M_ack_219 f v0 v1 v4 v8 x1 m := rfl
set_option maxRecDepth 100000 in
set_option maxHeartbeats 4000000 in
theorem b_M_ack_275_eq (f : Nat) (v0 : Nat) (v1 : Int32) (v8 : Int32) (m : Mm) : b_M_ack_275 (f + 1) v0 v1 v8 m =
    (ab_ix v1 2).bind fun i1 =>
    if ((m.1 153 (v0 + 21) i1) - (3 : Int32)) < v8 then
      some (.inl (some (.inl (0 : Int32)), m))
    else
      (ab_ix (((560 : Int32) * v1) + v8) 1120).bind fun i2 =>
      if (m.1 162 (v0 + 30) i2) = 0 then
        (r_M_loses v0 v1 (((560 : Int32) * v1) + v8) m).bind fun m3 =>
        b_M_ack_317 f v0 v1 v8 m3
      else
        b_M_ack_317 f v0 v1 v8 m := rfl
set_option maxRecDepth 100000 in
set_option maxHeartbeats 4000000 in
theorem b_M_ack_317_eq (f : Nat) (v0 : Nat) (v1 : Int32) (v8 : Int32) (m : Mm) : b_M_ack_317 (f + 1) v0 v1 v8 m =
    ab_let (v8 + (1 : Int32)) fun x1 =>
    b_M_ack_275 f v0 v1 x1 m := rfl
noncomputable def r_M_ack : Nat → Int32 → Mm → Option (Int32 × Mm) := ab_seal fun v0 v1 m => ab_rI (b_M_ack_0 50000 v0 v1 m)
theorem r_M_ack_eq (v0 : Nat) (v1 : Int32) (m : Mm) : r_M_ack v0 v1 m = ab_rI (b_M_ack_0 50000 v0 v1 m) := by
  unfold r_M_ack
  rw [ab_seal_eq]
noncomputable def c_M_ack : List AV → Mm → Option (Int32 × Mm) := fun av m => match av with
  | [.inr (.inr (kv0, ov0)), .inl v1] => if kv0 = 28 then (ov0.bind fun v0 => r_M_ack v0 v1 m) else none
  | _ => none
theorem c_M_ack_inv {av : List AV} {m : Mm} {r : Int32 × Mm} (h : c_M_ack av m = some r) : ∃ (v0 : Nat) (v1 : Int32), av = [.inr (.inr (28, some v0)), .inl v1] ∧ r_M_ack v0 v1 m = some r := by
  unfold c_M_ack at h
  split at h
  · rename_i kv0 ov0 v1
    by_cases hkv0 : kv0 = 28
    case neg => rw [if_neg hkv0] at h; cases h
    rw [if_pos hkv0] at h
    subst hkv0
    obtain ⟨v0, hev0, h⟩ := Option.bind_eq_some_iff.mp h
    subst hev0
    exact ⟨v0, v1, rfl, h⟩
  · cases h
def cs_M_ack : List Nat := [1, 6, 11, 90, 104, 257, 314]
set_option maxRecDepth 100000 in
theorem E_M_ack : ∀ (pc : Nat) (q : Ent), i_M_ack pc = some q → ab_E KT CL ab_gW "StreamTransportModel" "ack" (some .int) prog_12_method_36_code s_M_ack 11 pc q.1 q.2.1 q.2.2.1 q.2.2.2.1 q.2.2.2.2 := fun pc q hq =>
  ab_Eb_ok lc_M lj_M fl_M (fpn_M "ack") nw_M na_M nq_M (ab_tab_all (t := t_M_ack) (chk := fun pc q => ab_Eb (some .int) prog_12_method_36_code s_M_ack 11 LC_M LJ_M FL_M FPn_M NW_M NA_M NQ_M pc q.1 q.2.1 q.2.2.1 q.2.2.2.1 q.2.2.2.2) (by decide +kernel) hq)
set_option maxRecDepth 100000 in
theorem kp_M_ack {av : List AV} {m : Mm} {r : Int32 × Mm} (h : c_M_ack av m = some r) : ab_kp m r.2 := by
  obtain ⟨v0, v1, -, h⟩ := c_M_ack_inv h
  rw [r_M_ack_eq] at h
  have hV : ∀ a av m m', eV_M_ack a av m = some m' → ab_kp m m' := ab_ev_all (P := fun _ m r => ab_kp m r) [(127, c_M_acks), (128, c_M_loses)] (List.forall_mem_cons.mpr ⟨fun av m r h => kp_M_acks h, List.forall_mem_cons.mpr ⟨fun av m r h => kp_M_loses h, fun q hq => by cases hq⟩⟩)
  have hI : ∀ a av m q, eI_M_ack a av m = some q → ab_kp m q.2 := ab_ev_all (P := fun _ (m : Mm) (r : Int32 × Mm) => ab_kp m r.2) [(129, c_M_numberAt)] (List.forall_mem_cons.mpr ⟨fun av m r h => kp_M_numberAt h, fun q hq => by cases hq⟩)
  exact ab_kprel (ρ := .inl (some (.inl r.1), r.2)) (ab_tab_isn (t := t_M_ack) (by decide +kernel)) hV hI (ab_rI_inv h)
set_option maxRecDepth 100000 in
theorem cl_M_ack (l : Launch) : ∀ (pc : Nat) (q : Ent), i_M_ack pc = some q → ab_inv q.1 = true → ab_CR l KT CL none ab_gW "StreamTransportModel" prog_12_method_36_code 11 1 26 eV_M_ack eI_M_ack pc q := by
  intro pc q hq hi
  have hm : pc ∈ cs_M_ack := ab_tab_cs (t := t_M_ack) (by decide +kernel) hq hi
  simp only [cs_M_ack, List.mem_cons, List.not_mem_nil, or_false] at hm
  rcases hm with rfl | rfl | rfl | rfl | rfl | rfl | rfl
  · cases (Option.some.inj hq : ((.invokevirtual 240, 129, 1, 1, 0) : Ent) = q)
    exact ab_crV (C := "StreamTransportModel") (by decide +kernel) cw_M_numberAt (ab_gW_in 1273 (by decide +kernel) rfl) is_M_numberAt sl_M_numberAt (by decide) (fun av m m' h => by cases h) (fun av m r h => cm_M_numberAt l h) KT_nd
  · cases (Option.some.inj hq : ((.invokevirtual 240, 129, 1, 1, 0) : Ent) = q)
    exact ab_crV (C := "StreamTransportModel") (by decide +kernel) cw_M_numberAt (ab_gW_in 1273 (by decide +kernel) rfl) is_M_numberAt sl_M_numberAt (by decide) (fun av m m' h => by cases h) (fun av m r h => cm_M_numberAt l h) KT_nd
  · cases (Option.some.inj hq : ((.invokevirtual 240, 129, 1, 1, 0) : Ent) = q)
    exact ab_crV (C := "StreamTransportModel") (by decide +kernel) cw_M_numberAt (ab_gW_in 1273 (by decide +kernel) rfl) is_M_numberAt sl_M_numberAt (by decide) (fun av m m' h => by cases h) (fun av m r h => cm_M_numberAt l h) KT_nd
  · cases (Option.some.inj hq : ((.invokevirtual 240, 129, 1, 1, 0) : Ent) = q)
    exact ab_crV (C := "StreamTransportModel") (by decide +kernel) cw_M_numberAt (ab_gW_in 1273 (by decide +kernel) rfl) is_M_numberAt sl_M_numberAt (by decide) (fun av m m' h => by cases h) (fun av m r h => cm_M_numberAt l h) KT_nd
  · cases (Option.some.inj hq : ((.invokevirtual 240, 129, 1, 1, 0) : Ent) = q)
    exact ab_crV (C := "StreamTransportModel") (by decide +kernel) cw_M_numberAt (ab_gW_in 1273 (by decide +kernel) rfl) is_M_numberAt sl_M_numberAt (by decide) (fun av m m' h => by cases h) (fun av m r h => cm_M_numberAt l h) KT_nd
  · cases (Option.some.inj hq : ((.invokevirtual 256, 127, 3, 0, 0) : Ent) = q)
    exact ab_crV (C := "StreamTransportModel") (by decide +kernel) cw_M_acks (ab_gW_in 1278 (by decide +kernel) rfl) is_M_acks sl_M_acks (by decide) (fun av m m' h => cm_M_acks l h) (fun av m r h => by cases h) KT_nd
  · cases (Option.some.inj hq : ((.invokevirtual 259, 128, 3, 0, 0) : Ent) = q)
    exact ab_crV (C := "StreamTransportModel") (by decide +kernel) cw_M_loses (ab_gW_in 1282 (by decide +kernel) rfl) is_M_loses sl_M_loses (by decide) (fun av m m' h => cm_M_loses l h) (fun av m r h => by cases h) KT_nd
theorem cw_M_ack : ab_cw y_M_ack prog_12_method_36_code 11 1 (some .int) := ⟨ab_gW_in 1272 (by decide +kernel) rfl, ab_gW_in 71 (by decide +kernel) rfl, by decide +kernel, by decide +kernel, by decide +kernel⟩
theorem is_M_ack : Cond.instanceMethod y_M_ack ∈ ab_gW := ab_gW_in 1271 (by decide +kernel) rfl
theorem sl_M_ack : Cond.selects "StreamTransportModel" y_M_ack y_M_ack ∈ ab_gW := ab_gW_in 51 (by decide +kernel) rfl
set_option maxRecDepth 100000 in
theorem cm_M_ack (l : Launch) {av : List AV} {m : Mm} {r : Int32 × Mm} (h0 : c_M_ack av m = some r) : ∃ (k q : Nat) (av' : List AV) (ci : Nat) (fs : List (Nat × Nat × Nat × Nat)) (z : vw_C), av = .inr (.inr (k, some q)) :: av' ∧ av'.length = 1 ∧ k ≠ 0 ∧ KT[k]? = some (.inl (ci, fs)) ∧ CL[ci]? = some z ∧ z.1 = "StreamTransportModel" ∧ ab_nos av' ∧ ab_Met l KT CL y_M_ack (Cond.code y_M_ack prog_12_method_36_code 11 (some .int) :: ab_gW) 1 26 none av m (some (.inl r.1)) r.2 := by
  obtain ⟨v0, v1, hav, h⟩ := c_M_ack_inv h0
  rw [r_M_ack_eq] at h
  have hmo : ab_mo m r.2 := ab_kp_mo (kp_M_ack h0)
  subst hav
  exact ⟨_, _, _, _, _, _, rfl, rfl, by decide, rfl, rfl, rfl, (by intro v hv q e; subst e; simp at hv), ab_met (by decide +kernel) KT_0 KT_nd KT_k3 E_M_ack (cl_M_ack l) hmo (Nat.le_of_ble_eq_true rfl) (ab_rI_inv h) (fun v hv => by cases hv; exact ⟨_, rfl⟩)⟩
/-! StreamTransportModel.frame(II)I -/
def y_M_frame : MethodName := ⟨"StreamTransportModel", "frame", "(II)I"⟩
def t_M_frame (pc : Nat) : Option Ent :=
  bif Nat.blt pc 102 then
    (bif Nat.blt pc 50 then
      (bif Nat.blt pc 24 then
        (bif Nat.blt pc 12 then
          (bif Nat.blt pc 6 then
            (bif Nat.blt pc 1 then
              (bif Nat.beq pc 0 then some (.iload_n 2, 2, 0, 0, 0) else none)
            else
              bif Nat.blt pc 3 then
                (bif Nat.beq pc 1 then some (.bipush 6, 0, 0, 0, 6) else none)
              else
                bif Nat.beq pc 3 then some (.if_icmp .le (5), 8, 0, 0, 0) else none)
          else
            bif Nat.blt pc 8 then
              (bif Nat.blt pc 7 then
                (bif Nat.beq pc 6 then some (.iconst 1, 0, 0, 0, 1) else none)
              else
                bif Nat.beq pc 7 then some (.ireturn, 0, 0, 0, 0) else none)
            else
              bif Nat.blt pc 9 then
                (bif Nat.beq pc 8 then some (.iload_n 2, 2, 0, 0, 0) else none)
              else
                bif Nat.beq pc 9 then some (.ifCond .ne (5), 14, 0, 0, 0) else none)
        else
          bif Nat.blt pc 16 then
            (bif Nat.blt pc 14 then
              (bif Nat.blt pc 13 then
                (bif Nat.beq pc 12 then some (.iconst 0, 0, 0, 0, 0) else none)
              else
                bif Nat.beq pc 13 then some (.ireturn, 0, 0, 0, 0) else none)
            else
              bif Nat.blt pc 15 then
                (bif Nat.beq pc 14 then some (.iload_n 2, 2, 0, 0, 0) else none)
              else
                bif Nat.beq pc 15 then some (.iconst 1, 0, 0, 0, 1) else none)
          else
            bif Nat.blt pc 20 then
              (bif Nat.blt pc 19 then
                (bif Nat.beq pc 16 then some (.if_icmp .ne (9), 25, 0, 0, 0) else none)
              else
                bif Nat.beq pc 19 then some (.aload_n 0, 0, 0, 0, 0) else none)
            else
              bif Nat.blt pc 21 then
                (bif Nat.beq pc 20 then some (.iload_n 1, 1, 0, 0, 0) else none)
              else
                bif Nat.beq pc 21 then some (.invokevirtual 237, 134, 2, 1, 0) else none)
      else
        bif Nat.blt pc 36 then
          (bif Nat.blt pc 29 then
            (bif Nat.blt pc 25 then
              (bif Nat.beq pc 24 then some (.ireturn, 0, 0, 0, 0) else none)
            else
              bif Nat.blt pc 26 then
                (bif Nat.beq pc 25 then some (.aload_n 0, 0, 0, 0, 0) else none)
              else
                bif Nat.beq pc 26 then some (.invokevirtual 240, 129, 1, 1, 0) else none)
          else
            bif Nat.blt pc 31 then
              (bif Nat.blt pc 30 then
                (bif Nat.beq pc 29 then some (.istore_n 3, 3, 0, 0, 0) else none)
              else
                bif Nat.beq pc 30 then some (.iload_n 2, 2, 0, 0, 0) else none)
            else
              bif Nat.blt pc 33 then
                (bif Nat.beq pc 31 then some (.bipush 6, 0, 0, 0, 6) else none)
              else
                bif Nat.beq pc 33 then some (.if_icmp .ne (30), 63, 0, 0, 0) else none)
        else
          bif Nat.blt pc 44 then
            (bif Nat.blt pc 40 then
              (bif Nat.blt pc 37 then
                (bif Nat.beq pc 36 then some (.aload_n 0, 0, 0, 0, 0) else none)
              else
                bif Nat.beq pc 37 then some (.getfield 226, 10, 46, 0, 0) else none)
            else
              bif Nat.blt pc 43 then
                (bif Nat.beq pc 40 then some (.ifCond .ne (10), 50, 0, 0, 0) else none)
              else
                bif Nat.beq pc 43 then some (.aload_n 0, 0, 0, 0, 0) else none)
          else
            bif Nat.blt pc 48 then
              (bif Nat.blt pc 47 then
                (bif Nat.beq pc 44 then some (.getfield 74, 10, 25, 1, 0) else none)
              else
                bif Nat.beq pc 47 then some (.iload_n 1, 1, 0, 0, 0) else none)
            else
              bif Nat.blt pc 49 then
                (bif Nat.beq pc 48 then some (.iload_n 3, 3, 0, 0, 0) else none)
              else
                bif Nat.beq pc 49 then some (.iastore, 0, 0, 0, 0) else none)
    else
      bif Nat.blt pc 77 then
        (bif Nat.blt pc 63 then
          (bif Nat.blt pc 57 then
            (bif Nat.blt pc 51 then
              (bif Nat.beq pc 50 then some (.aload_n 0, 0, 0, 0, 0) else none)
            else
              bif Nat.blt pc 54 then
                (bif Nat.beq pc 51 then some (.getfield 226, 10, 46, 0, 0) else none)
              else
                bif Nat.beq pc 54 then some (.ifCond .eq (7), 61, 0, 0, 0) else none)
          else
            bif Nat.blt pc 61 then
              (bif Nat.blt pc 58 then
                (bif Nat.beq pc 57 then some (.iconst 1, 0, 0, 0, 1) else none)
              else
                bif Nat.beq pc 58 then some (.goto 4, 62, 0, 0, 0) else none)
            else
              bif Nat.blt pc 62 then
                (bif Nat.beq pc 61 then some (.iconst 0, 0, 0, 0, 0) else none)
              else
                bif Nat.beq pc 62 then some (.ireturn, 0, 0, 0, 0) else none)
        else
          bif Nat.blt pc 69 then
            (bif Nat.blt pc 65 then
              (bif Nat.blt pc 64 then
                (bif Nat.beq pc 63 then some (.iload_n 2, 2, 0, 0, 0) else none)
              else
                bif Nat.beq pc 64 then some (.iconst 3, 0, 0, 0, 3) else none)
            else
              bif Nat.blt pc 68 then
                (bif Nat.beq pc 65 then some (.if_icmp .ne (49), 114, 0, 0, 0) else none)
              else
                bif Nat.beq pc 68 then some (.aload_n 0, 0, 0, 0, 0) else none)
          else
            bif Nat.blt pc 73 then
              (bif Nat.blt pc 72 then
                (bif Nat.beq pc 69 then some (.getfield 59, 10, 20, 1, 0) else none)
              else
                bif Nat.beq pc 72 then some (.iload_n 1, 1, 0, 0, 0) else none)
            else
              bif Nat.blt pc 74 then
                (bif Nat.beq pc 73 then some (.aload_n 0, 0, 0, 0, 0) else none)
              else
                bif Nat.beq pc 74 then some (.getfield 226, 10, 46, 0, 0) else none)
      else
        bif Nat.blt pc 90 then
          (bif Nat.blt pc 82 then
            (bif Nat.blt pc 80 then
              (bif Nat.beq pc 77 then some (.ifCond .ne (17), 94, 0, 0, 0) else none)
            else
              bif Nat.blt pc 81 then
                (bif Nat.beq pc 80 then some (.iload_n 3, 3, 0, 0, 0) else none)
              else
                bif Nat.beq pc 81 then some (.aload_n 0, 0, 0, 0, 0) else none)
          else
            bif Nat.blt pc 86 then
              (bif Nat.blt pc 85 then
                (bif Nat.beq pc 82 then some (.getfield 59, 10, 20, 1, 0) else none)
              else
                bif Nat.beq pc 85 then some (.iload_n 1, 1, 0, 0, 0) else none)
            else
              bif Nat.blt pc 87 then
                (bif Nat.beq pc 86 then some (.iaload, 0, 0, 0, 0) else none)
              else
                bif Nat.beq pc 87 then some (.if_icmp .le (7), 94, 0, 0, 0) else none)
        else
          bif Nat.blt pc 98 then
            (bif Nat.blt pc 94 then
              (bif Nat.blt pc 91 then
                (bif Nat.beq pc 90 then some (.iload_n 3, 3, 0, 0, 0) else none)
              else
                bif Nat.beq pc 91 then some (.goto 9, 100, 0, 0, 0) else none)
            else
              bif Nat.blt pc 95 then
                (bif Nat.beq pc 94 then some (.aload_n 0, 0, 0, 0, 0) else none)
              else
                bif Nat.beq pc 95 then some (.getfield 59, 10, 20, 1, 0) else none)
          else
            bif Nat.blt pc 100 then
              (bif Nat.blt pc 99 then
                (bif Nat.beq pc 98 then some (.iload_n 1, 1, 0, 0, 0) else none)
              else
                bif Nat.beq pc 99 then some (.iaload, 0, 0, 0, 0) else none)
            else
              bif Nat.blt pc 101 then
                (bif Nat.beq pc 100 then some (.iastore, 0, 0, 0, 0) else none)
              else
                bif Nat.beq pc 101 then some (.aload_n 0, 0, 0, 0, 0) else none)
  else
    bif Nat.blt pc 152 then
      (bif Nat.blt pc 128 then
        (bif Nat.blt pc 115 then
          (bif Nat.blt pc 109 then
            (bif Nat.blt pc 105 then
              (bif Nat.beq pc 102 then some (.getfield 226, 10, 46, 0, 0) else none)
            else
              bif Nat.blt pc 108 then
                (bif Nat.beq pc 105 then some (.ifCond .eq (7), 112, 0, 0, 0) else none)
              else
                bif Nat.beq pc 108 then some (.iconst 1, 0, 0, 0, 1) else none)
          else
            bif Nat.blt pc 113 then
              (bif Nat.blt pc 112 then
                (bif Nat.beq pc 109 then some (.goto 4, 113, 0, 0, 0) else none)
              else
                bif Nat.beq pc 112 then some (.iconst 0, 0, 0, 0, 0) else none)
            else
              bif Nat.blt pc 114 then
                (bif Nat.beq pc 113 then some (.ireturn, 0, 0, 0, 0) else none)
              else
                bif Nat.beq pc 114 then some (.aload_n 0, 0, 0, 0, 0) else none)
        else
          bif Nat.blt pc 122 then
            (bif Nat.blt pc 120 then
              (bif Nat.blt pc 118 then
                (bif Nat.beq pc 115 then some (.invokevirtual 240, 129, 1, 1, 0) else none)
              else
                bif Nat.beq pc 118 then some (.istore 4, 4, 0, 0, 0) else none)
            else
              bif Nat.blt pc 121 then
                (bif Nat.beq pc 120 then some (.iload_n 2, 2, 0, 0, 0) else none)
              else
                bif Nat.beq pc 121 then some (.iconst 2, 0, 0, 0, 2) else none)
          else
            bif Nat.blt pc 126 then
              (bif Nat.blt pc 125 then
                (bif Nat.beq pc 122 then some (.if_icmp .ne (12), 134, 0, 0, 0) else none)
              else
                bif Nat.beq pc 125 then some (.aload_n 0, 0, 0, 0, 0) else none)
            else
              bif Nat.blt pc 127 then
                (bif Nat.beq pc 126 then some (.iload_n 1, 1, 0, 0, 0) else none)
              else
                bif Nat.beq pc 127 then some (.iload_n 3, 3, 0, 0, 0) else none)
      else
        bif Nat.blt pc 142 then
          (bif Nat.blt pc 134 then
            (bif Nat.blt pc 130 then
              (bif Nat.beq pc 128 then some (.iload 4, 4, 0, 0, 0) else none)
            else
              bif Nat.blt pc 133 then
                (bif Nat.beq pc 130 then some (.invokevirtual 244, 132, 4, 1, 0) else none)
              else
                bif Nat.beq pc 133 then some (.ireturn, 0, 0, 0, 0) else none)
          else
            bif Nat.blt pc 138 then
              (bif Nat.blt pc 135 then
                (bif Nat.beq pc 134 then some (.aload_n 0, 0, 0, 0, 0) else none)
              else
                bif Nat.beq pc 135 then some (.getfield 226, 10, 46, 0, 0) else none)
            else
              bif Nat.blt pc 141 then
                (bif Nat.beq pc 138 then some (.ifCond .eq (5), 143, 0, 0, 0) else none)
              else
                bif Nat.beq pc 141 then some (.iconst 1, 0, 0, 0, 1) else none)
        else
          bif Nat.blt pc 148 then
            (bif Nat.blt pc 144 then
              (bif Nat.blt pc 143 then
                (bif Nat.beq pc 142 then some (.ireturn, 0, 0, 0, 0) else none)
              else
                bif Nat.beq pc 143 then some (.iload_n 3, 3, 0, 0, 0) else none)
            else
              bif Nat.blt pc 145 then
                (bif Nat.beq pc 144 then some (.iconst 3, 0, 0, 0, 3) else none)
              else
                bif Nat.beq pc 145 then some (.if_icmp .le (5), 150, 0, 0, 0) else none)
          else
            bif Nat.blt pc 150 then
              (bif Nat.blt pc 149 then
                (bif Nat.beq pc 148 then some (.iconst 2, 0, 0, 0, 2) else none)
              else
                bif Nat.beq pc 149 then some (.ireturn, 0, 0, 0, 0) else none)
            else
              bif Nat.blt pc 151 then
                (bif Nat.beq pc 150 then some (.iconst 4, 0, 0, 0, 4) else none)
              else
                bif Nat.beq pc 151 then some (.iload_n 1, 1, 0, 0, 0) else none)
    else
      bif Nat.blt pc 176 then
        (bif Nat.blt pc 162 then
          (bif Nat.blt pc 155 then
            (bif Nat.blt pc 153 then
              (bif Nat.beq pc 152 then some (.imul, 0, 0, 0, 0) else none)
            else
              bif Nat.blt pc 154 then
                (bif Nat.beq pc 153 then some (.iload_n 3, 3, 0, 0, 0) else none)
              else
                bif Nat.beq pc 154 then some (.iadd, 0, 0, 0, 0) else none)
          else
            bif Nat.blt pc 158 then
              (bif Nat.blt pc 157 then
                (bif Nat.beq pc 155 then some (.istore 5, 5, 0, 0, 0) else none)
              else
                bif Nat.beq pc 157 then some (.iload_n 2, 2, 0, 0, 0) else none)
            else
              bif Nat.blt pc 159 then
                (bif Nat.beq pc 158 then some (.iconst 5, 0, 0, 0, 5) else none)
              else
                bif Nat.beq pc 159 then some (.if_icmp .ne (13), 172, 0, 0, 0) else none)
        else
          bif Nat.blt pc 168 then
            (bif Nat.blt pc 164 then
              (bif Nat.blt pc 163 then
                (bif Nat.beq pc 162 then some (.aload_n 0, 0, 0, 0, 0) else none)
              else
                bif Nat.beq pc 163 then some (.iload_n 1, 1, 0, 0, 0) else none)
            else
              bif Nat.blt pc 166 then
                (bif Nat.beq pc 164 then some (.iload 5, 5, 0, 0, 0) else none)
              else
                bif Nat.beq pc 166 then some (.iload 4, 4, 0, 0, 0) else none)
          else
            bif Nat.blt pc 172 then
              (bif Nat.blt pc 171 then
                (bif Nat.beq pc 168 then some (.invokevirtual 248, 133, 4, 1, 0) else none)
              else
                bif Nat.beq pc 171 then some (.ireturn, 0, 0, 0, 0) else none)
            else
              bif Nat.blt pc 173 then
                (bif Nat.beq pc 172 then some (.aload_n 0, 0, 0, 0, 0) else none)
              else
                bif Nat.beq pc 173 then some (.getfield 28, 10, 10, 1, 0) else none)
      else
        bif Nat.blt pc 192 then
          (bif Nat.blt pc 184 then
            (bif Nat.blt pc 180 then
              (bif Nat.blt pc 178 then
                (bif Nat.beq pc 176 then some (.iload 5, 5, 0, 0, 0) else none)
              else
                bif Nat.beq pc 178 then some (.iload 4, 4, 0, 0, 0) else none)
            else
              bif Nat.blt pc 181 then
                (bif Nat.beq pc 180 then some (.aload_n 0, 0, 0, 0, 0) else none)
              else
                bif Nat.beq pc 181 then some (.getfield 28, 10, 10, 1, 0) else none)
          else
            bif Nat.blt pc 187 then
              (bif Nat.blt pc 186 then
                (bif Nat.beq pc 184 then some (.iload 5, 5, 0, 0, 0) else none)
              else
                bif Nat.beq pc 186 then some (.iaload, 0, 0, 0, 0) else none)
            else
              bif Nat.blt pc 190 then
                (bif Nat.beq pc 187 then some (.if_icmp .le (8), 195, 0, 0, 0) else none)
              else
                bif Nat.beq pc 190 then some (.iload 4, 4, 0, 0, 0) else none)
        else
          bif Nat.blt pc 201 then
            (bif Nat.blt pc 196 then
              (bif Nat.blt pc 195 then
                (bif Nat.beq pc 192 then some (.goto 10, 202, 0, 0, 0) else none)
              else
                bif Nat.beq pc 195 then some (.aload_n 0, 0, 0, 0, 0) else none)
            else
              bif Nat.blt pc 199 then
                (bif Nat.beq pc 196 then some (.getfield 28, 10, 10, 1, 0) else none)
              else
                bif Nat.beq pc 199 then some (.iload 5, 5, 0, 0, 0) else none)
          else
            bif Nat.blt pc 203 then
              (bif Nat.blt pc 202 then
                (bif Nat.beq pc 201 then some (.iaload, 0, 0, 0, 0) else none)
              else
                bif Nat.beq pc 202 then some (.iastore, 0, 0, 0, 0) else none)
            else
              bif Nat.blt pc 204 then
                (bif Nat.beq pc 203 then some (.iconst 0, 0, 0, 0, 0) else none)
              else
                bif Nat.beq pc 204 then some (.ireturn, 0, 0, 0, 0) else none
def i_M_frame : Nat → Option Ent := ab_tab 205 t_M_frame
def h_M_frame (pc : Nat) : Nat × List Bool := bif Nat.beq pc 50 then (1, [true, false, false, false, false, false]) else bif Nat.beq pc 94 then (1, [true, true, false, false, false, false]) else bif Nat.beq pc 100 then (1, [true, false, false, false, false, false]) else bif Nat.beq pc 202 then (1, [false, false, false, false, false, false]) else (0, [])
def s_M_frame (pc : Nat) : List (Int32 × Nat) × Nat := ([], 0)
noncomputable def eV_M_frame : Nat → List AV → Mm → Option Mm := ab_ev []
noncomputable def eI_M_frame : Nat → List AV → Mm → Option (Int32 × Mm) := ab_ev [(134, c_M_ack), (129, c_M_numberAt), (132, c_M_segment), (133, c_M_resetBy)]
noncomputable def b_M_frame_0 (f : Nat) (v0 : Nat) (v1 : Int32) (v2 : Int32) (m : Mm) : Option Rs := ab_ex KT none s_M_frame eV_M_frame eI_M_frame i_M_frame h_M_frame f 0 [some (.inr (.inr (28, some v0))), some (.inl v1), some (.inl v2), none, none, none] [] m
noncomputable def b_M_frame_50 (f : Nat) (v0 : Nat) (m : Mm) : Option Rs := ab_ex KT none s_M_frame eV_M_frame eI_M_frame i_M_frame h_M_frame f 50 [some (.inr (.inr (28, some v0))), none, none, none, none, none] [] m
noncomputable def b_M_frame_94 (f : Nat) (v0 : Nat) (v1 : Int32) (u0 : Nat) (u1 : Int32) (m : Mm) : Option Rs := ab_ex KT none s_M_frame eV_M_frame eI_M_frame i_M_frame h_M_frame f 94 [some (.inr (.inr (28, some v0))), some (.inl v1), none, none, none, none] [.inl u1, .inr (.inr (45, some u0))] m
noncomputable def b_M_frame_100 (f : Nat) (v0 : Nat) (u0 : Nat) (u1 : Int32) (u2 : Int32) (m : Mm) : Option Rs := ab_ex KT none s_M_frame eV_M_frame eI_M_frame i_M_frame h_M_frame f 100 [some (.inr (.inr (28, some v0))), none, none, none, none, none] [.inl u2, .inl u1, .inr (.inr (45, some u0))] m
noncomputable def b_M_frame_202 (f : Nat) (u0 : Nat) (u1 : Int32) (u2 : Int32) (m : Mm) : Option Rs := ab_ex KT none s_M_frame eV_M_frame eI_M_frame i_M_frame h_M_frame f 202 [none, none, none, none, none, none] [.inl u2, .inl u1, .inr (.inr (35, some u0))] m
set_option maxRecDepth 100000 in
set_option maxHeartbeats 4000000 in
theorem b_M_frame_0_eq (f : Nat) (v0 : Nat) (v1 : Int32) (v2 : Int32) (m : Mm) : b_M_frame_0 (f + 1) v0 v1 v2 m =
    if v2 ≤ (6 : Int32) then
      if v2 = 0 then
        some (.inl (some (.inl (0 : Int32)), m))
      else
        if v2 = (1 : Int32) then
          (r_M_ack v0 v1 m).bind fun z11 =>
          some (.inl (some (.inl z11.1), z11.2))
        else
          (r_M_numberAt v0 m).bind fun z1 =>
          if v2 = (6 : Int32) then
            if (z1.2.1 127 v0 0) = 0 then
              (ab_ix v1 2).bind fun i9 =>
              ab_let (ab_uI z1.2 154 (v0 + 22) i9 z1.1) fun m10 =>
              b_M_frame_50 f v0 m10
            else
              b_M_frame_50 f v0 z1.2
          else
            if v2 = (3 : Int32) then
              if (z1.2.1 127 v0 0) = 0 then
                (ab_ix v1 2).bind fun i8 =>
                if z1.1 ≤ (z1.2.1 149 (v0 + 17) i8) then
                  b_M_frame_94 f v0 v1 (v0 + 17) v1 z1.2
                else
                  b_M_frame_100 f v0 (v0 + 17) v1 z1.1 z1.2
              else
                b_M_frame_94 f v0 v1 (v0 + 17) v1 z1.2
            else
              (r_M_numberAt v0 z1.2).bind fun z2 =>
              if v2 = (2 : Int32) then
                (r_M_segment v0 v1 z1.1 z2.1 z2.2).bind fun z7 =>
                some (.inl (some (.inl z7.1), z7.2))
              else
                if (z2.2.1 127 v0 0) = 0 then
                  if z1.1 ≤ (3 : Int32) then
                    ab_let ((((4 : Int32) * v1) + z1.1)) fun x3 =>
                    if v2 = (5 : Int32) then
                      (r_M_resetBy v0 v1 x3 z2.1 z2.2).bind fun z6 =>
                      some (.inl (some (.inl z6.1), z6.2))
                    else
                      (ab_ix x3 8).bind fun i4 =>
                      if z2.1 ≤ (z2.2.1 139 (v0 + 7) i4) then
                        (ab_ix x3 8).bind fun i5 =>
                        b_M_frame_202 f (v0 + 7) x3 (z2.2.1 139 (v0 + 7) i5) z2.2
                      else
                        b_M_frame_202 f (v0 + 7) x3 z2.1 z2.2
                  else
                    some (.inl (some (.inl (2 : Int32)), z2.2))
                else
                  some (.inl (some (.inl (1 : Int32)), z2.2))
    else
      some (.inl (some (.inl (1 : Int32)), m)) := rfl
set_option maxRecDepth 100000 in
set_option maxHeartbeats 4000000 in
theorem b_M_frame_50_eq (f : Nat) (v0 : Nat) (m : Mm) : b_M_frame_50 (f + 1) v0 m =
    if (m.1 127 v0 0) = 0 then
      some (.inl (some (.inl (0 : Int32)), m))
    else
      some (.inl (some (.inl (1 : Int32)), m)) := rfl
set_option maxRecDepth 100000 in
set_option maxHeartbeats 4000000 in
theorem b_M_frame_94_eq (f : Nat) (v0 : Nat) (v1 : Int32) (u0 : Nat) (u1 : Int32) (m : Mm) : b_M_frame_94 (f + 1) v0 v1 u0 u1 m =
    (ab_ix v1 2).bind fun i1 =>
    b_M_frame_100 f v0 u0 u1 (m.1 149 (v0 + 17) i1) m := rfl
set_option maxRecDepth 100000 in
set_option maxHeartbeats 4000000 in
theorem b_M_frame_100_eq (f : Nat) (v0 : Nat) (u0 : Nat) (u1 : Int32) (u2 : Int32) (m : Mm) : b_M_frame_100 (f + 1) v0 u0 u1 u2 m =
    (ab_ix u1 2).bind fun i1 =>
    ab_let (ab_uI m 149 u0 i1 u2) fun m2 =>
    if (m2.1 127 v0 0) = 0 then
      some (.inl (some (.inl (0 : Int32)), m2))
    else
      some (.inl (some (.inl (1 : Int32)), m2)) := rfl
set_option maxRecDepth 100000 in
set_option maxHeartbeats 4000000 in
theorem b_M_frame_202_eq (f : Nat) (u0 : Nat) (u1 : Int32) (u2 : Int32) (m : Mm) : b_M_frame_202 (f + 1) u0 u1 u2 m =
    (ab_ix u1 8).bind fun i1 =>
    ab_let (ab_uI m 139 u0 i1 u2) fun m2 =>
    some (.inl (some (.inl (0 : Int32)), m2)) := rfl
noncomputable def r_M_frame : Nat → Int32 → Int32 → Mm → Option (Int32 × Mm) := ab_seal fun v0 v1 v2 m => ab_rI (b_M_frame_0 50000 v0 v1 v2 m)
theorem r_M_frame_eq (v0 : Nat) (v1 : Int32) (v2 : Int32) (m : Mm) : r_M_frame v0 v1 v2 m = ab_rI (b_M_frame_0 50000 v0 v1 v2 m) := by
  unfold r_M_frame
  rw [ab_seal_eq]
noncomputable def c_M_frame : List AV → Mm → Option (Int32 × Mm) := fun av m => match av with
  | [.inr (.inr (kv0, ov0)), .inl v1, .inl v2] => if kv0 = 28 then (ov0.bind fun v0 => r_M_frame v0 v1 v2 m) else none
  | _ => none
theorem c_M_frame_inv {av : List AV} {m : Mm} {r : Int32 × Mm} (h : c_M_frame av m = some r) : ∃ (v0 : Nat) (v1 : Int32) (v2 : Int32), av = [.inr (.inr (28, some v0)), .inl v1, .inl v2] ∧ r_M_frame v0 v1 v2 m = some r := by
  unfold c_M_frame at h
  split at h
  · rename_i kv0 ov0 v1 v2
    by_cases hkv0 : kv0 = 28
    case neg => rw [if_neg hkv0] at h; cases h
    rw [if_pos hkv0] at h
    subst hkv0
    obtain ⟨v0, hev0, h⟩ := Option.bind_eq_some_iff.mp h
    subst hev0
    exact ⟨v0, v1, v2, rfl, h⟩
  · cases h
def cs_M_frame : List Nat := [21, 26, 115, 130, 168]
set_option maxRecDepth 100000 in
theorem E_M_frame : ∀ (pc : Nat) (q : Ent), i_M_frame pc = some q → ab_E KT CL ab_gW "StreamTransportModel" "frame" (some .int) prog_12_method_32_code s_M_frame 6 pc q.1 q.2.1 q.2.2.1 q.2.2.2.1 q.2.2.2.2 := fun pc q hq =>
  ab_Eb_ok lc_M lj_M fl_M (fpn_M "frame") nw_M na_M nq_M (ab_tab_all (t := t_M_frame) (chk := fun pc q => ab_Eb (some .int) prog_12_method_32_code s_M_frame 6 LC_M LJ_M FL_M FPn_M NW_M NA_M NQ_M pc q.1 q.2.1 q.2.2.1 q.2.2.2.1 q.2.2.2.2) (by decide +kernel) hq)
set_option maxRecDepth 100000 in
theorem kp_M_frame {av : List AV} {m : Mm} {r : Int32 × Mm} (h : c_M_frame av m = some r) : ab_kp m r.2 := by
  obtain ⟨v0, v1, v2, -, h⟩ := c_M_frame_inv h
  rw [r_M_frame_eq] at h
  have hV : ∀ a av m m', eV_M_frame a av m = some m' → ab_kp m m' := ab_ev_all (P := fun _ m r => ab_kp m r) [] (fun q hq => by cases hq)
  have hI : ∀ a av m q, eI_M_frame a av m = some q → ab_kp m q.2 := ab_ev_all (P := fun _ (m : Mm) (r : Int32 × Mm) => ab_kp m r.2) [(134, c_M_ack), (129, c_M_numberAt), (132, c_M_segment), (133, c_M_resetBy)] (List.forall_mem_cons.mpr ⟨fun av m r h => kp_M_ack h, List.forall_mem_cons.mpr ⟨fun av m r h => kp_M_numberAt h, List.forall_mem_cons.mpr ⟨fun av m r h => kp_M_segment h, List.forall_mem_cons.mpr ⟨fun av m r h => kp_M_resetBy h, fun q hq => by cases hq⟩⟩⟩⟩)
  exact ab_kprel (ρ := .inl (some (.inl r.1), r.2)) (ab_tab_isn (t := t_M_frame) (by decide +kernel)) hV hI (ab_rI_inv h)
set_option maxRecDepth 100000 in
theorem cl_M_frame (l : Launch) : ∀ (pc : Nat) (q : Ent), i_M_frame pc = some q → ab_inv q.1 = true → ab_CR l KT CL none ab_gW "StreamTransportModel" prog_12_method_32_code 6 3 68 eV_M_frame eI_M_frame pc q := by
  intro pc q hq hi
  have hm : pc ∈ cs_M_frame := ab_tab_cs (t := t_M_frame) (by decide +kernel) hq hi
  simp only [cs_M_frame, List.mem_cons, List.not_mem_nil, or_false] at hm
  rcases hm with rfl | rfl | rfl | rfl | rfl
  · cases (Option.some.inj hq : ((.invokevirtual 237, 134, 2, 1, 0) : Ent) = q)
    exact ab_crV (C := "StreamTransportModel") (by decide +kernel) cw_M_ack (ab_gW_in 1269 (by decide +kernel) rfl) is_M_ack sl_M_ack (by decide) (fun av m m' h => by cases h) (fun av m r h => cm_M_ack l h) KT_nd
  · cases (Option.some.inj hq : ((.invokevirtual 240, 129, 1, 1, 0) : Ent) = q)
    exact ab_crV (C := "StreamTransportModel") (by decide +kernel) cw_M_numberAt (ab_gW_in 1273 (by decide +kernel) rfl) is_M_numberAt sl_M_numberAt (by decide) (fun av m m' h => by cases h) (fun av m r h => cm_M_numberAt l h) KT_nd
  · cases (Option.some.inj hq : ((.invokevirtual 240, 129, 1, 1, 0) : Ent) = q)
    exact ab_crV (C := "StreamTransportModel") (by decide +kernel) cw_M_numberAt (ab_gW_in 1273 (by decide +kernel) rfl) is_M_numberAt sl_M_numberAt (by decide) (fun av m m' h => by cases h) (fun av m r h => cm_M_numberAt l h) KT_nd
  · cases (Option.some.inj hq : ((.invokevirtual 244, 132, 4, 1, 0) : Ent) = q)
    exact ab_crV (C := "StreamTransportModel") (by decide +kernel) cw_M_segment (ab_gW_in 1286 (by decide +kernel) rfl) is_M_segment sl_M_segment (by decide) (fun av m m' h => by cases h) (fun av m r h => cm_M_segment l h) KT_nd
  · cases (Option.some.inj hq : ((.invokevirtual 248, 133, 4, 1, 0) : Ent) = q)
    exact ab_crV (C := "StreamTransportModel") (by decide +kernel) cw_M_resetBy (ab_gW_in 1294 (by decide +kernel) rfl) is_M_resetBy sl_M_resetBy (by decide) (fun av m m' h => by cases h) (fun av m r h => cm_M_resetBy l h) KT_nd
theorem cw_M_frame : ab_cw y_M_frame prog_12_method_32_code 6 2 (some .int) := ⟨ab_gW_in 1268 (by decide +kernel) rfl, ab_gW_in 71 (by decide +kernel) rfl, by decide +kernel, by decide +kernel, by decide +kernel⟩
theorem is_M_frame : Cond.instanceMethod y_M_frame ∈ ab_gW := ab_gW_in 1267 (by decide +kernel) rfl
theorem sl_M_frame : Cond.selects "StreamTransportModel" y_M_frame y_M_frame ∈ ab_gW := ab_gW_in 50 (by decide +kernel) rfl
set_option maxRecDepth 100000 in
theorem cm_M_frame (l : Launch) {av : List AV} {m : Mm} {r : Int32 × Mm} (h0 : c_M_frame av m = some r) : ∃ (k q : Nat) (av' : List AV) (ci : Nat) (fs : List (Nat × Nat × Nat × Nat)) (z : vw_C), av = .inr (.inr (k, some q)) :: av' ∧ av'.length = 2 ∧ k ≠ 0 ∧ KT[k]? = some (.inl (ci, fs)) ∧ CL[ci]? = some z ∧ z.1 = "StreamTransportModel" ∧ ab_nos av' ∧ ab_Met l KT CL y_M_frame (Cond.code y_M_frame prog_12_method_32_code 6 (some .int) :: ab_gW) 3 68 none av m (some (.inl r.1)) r.2 := by
  obtain ⟨v0, v1, v2, hav, h⟩ := c_M_frame_inv h0
  rw [r_M_frame_eq] at h
  have hmo : ab_mo m r.2 := ab_kp_mo (kp_M_frame h0)
  subst hav
  exact ⟨_, _, _, _, _, _, rfl, rfl, by decide, rfl, rfl, rfl, (by intro v hv q e; subst e; simp at hv), ab_met (by decide +kernel) KT_0 KT_nd KT_k3 E_M_frame (cl_M_frame l) hmo (Nat.le_of_ble_eq_true rfl) (ab_rI_inv h) (fun v hv => by cases hv; exact ⟨_, rfl⟩)⟩
/-! StreamTransportModel.receive(I)I -/
def y_M_receive : MethodName := ⟨"StreamTransportModel", "receive", "(I)I"⟩
def t_M_receive (pc : Nat) : Option Ent :=
  bif Nat.blt pc 169 then
    (bif Nat.blt pc 83 then
      (bif Nat.blt pc 40 then
        (bif Nat.blt pc 20 then
          (bif Nat.blt pc 10 then
            (bif Nat.blt pc 5 then
              (bif Nat.blt pc 1 then
                (bif Nat.beq pc 0 then some (.aload_n 0, 0, 0, 0, 0) else none)
              else
                bif Nat.blt pc 4 then
                  (bif Nat.beq pc 1 then some (.getfield 74, 10, 25, 1, 0) else none)
                else
                  bif Nat.beq pc 4 then some (.iload_n 1, 1, 0, 0, 0) else none)
            else
              bif Nat.blt pc 6 then
                (bif Nat.beq pc 5 then some (.iaload, 0, 0, 0, 0) else none)
              else
                bif Nat.blt pc 9 then
                  (bif Nat.beq pc 6 then some (.ifCond .lt (5), 11, 0, 0, 0) else none)
                else
                  bif Nat.beq pc 9 then some (.iconst 2, 0, 0, 0, 2) else none)
          else
            bif Nat.blt pc 15 then
              (bif Nat.blt pc 11 then
                (bif Nat.beq pc 10 then some (.ireturn, 0, 0, 0, 0) else none)
              else
                bif Nat.blt pc 12 then
                  (bif Nat.beq pc 11 then some (.aload_n 0, 0, 0, 0, 0) else none)
                else
                  bif Nat.beq pc 12 then some (.getfield 223, 10, 42, 0, 0) else none)
            else
              bif Nat.blt pc 16 then
                (bif Nat.beq pc 15 then some (.iconst 3, 0, 0, 0, 3) else none)
              else
                bif Nat.blt pc 19 then
                  (bif Nat.beq pc 16 then some (.if_icmp .lt (14), 30, 0, 0, 0) else none)
                else
                  bif Nat.beq pc 19 then some (.aload_n 0, 0, 0, 0, 0) else none)
        else
          bif Nat.blt pc 31 then
            (bif Nat.blt pc 25 then
              (bif Nat.blt pc 23 then
                (bif Nat.beq pc 20 then some (.getfield 113, 10, 39, 1, 0) else none)
              else
                bif Nat.blt pc 24 then
                  (bif Nat.beq pc 23 then some (.iconst 0, 0, 0, 0, 0) else none)
                else
                  bif Nat.beq pc 24 then some (.iaload, 0, 0, 0, 0) else none)
            else
              bif Nat.blt pc 27 then
                (bif Nat.beq pc 25 then some (.bipush 15, 0, 0, 0, 15) else none)
              else
                bif Nat.blt pc 30 then
                  (bif Nat.beq pc 27 then some (.if_icmp .le (5), 32, 0, 0, 0) else none)
                else
                  bif Nat.beq pc 30 then some (.iconst 1, 0, 0, 0, 1) else none)
          else
            bif Nat.blt pc 34 then
              (bif Nat.blt pc 32 then
                (bif Nat.beq pc 31 then some (.ireturn, 0, 0, 0, 0) else none)
              else
                bif Nat.blt pc 33 then
                  (bif Nat.beq pc 32 then some (.aload_n 0, 0, 0, 0, 0) else none)
                else
                  bif Nat.beq pc 33 then some (.iload_n 1, 1, 0, 0, 0) else none)
            else
              bif Nat.blt pc 38 then
                (bif Nat.blt pc 35 then
                  (bif Nat.beq pc 34 then some (.aload_n 0, 0, 0, 0, 0) else none)
                else
                  bif Nat.beq pc 35 then some (.getfield 113, 10, 39, 1, 0) else none)
              else
                bif Nat.blt pc 39 then
                  (bif Nat.beq pc 38 then some (.iconst 0, 0, 0, 0, 0) else none)
                else
                  bif Nat.beq pc 39 then some (.iaload, 0, 0, 0, 0) else none)
      else
        bif Nat.blt pc 60 then
          (bif Nat.blt pc 49 then
            (bif Nat.blt pc 46 then
              (bif Nat.blt pc 43 then
                (bif Nat.beq pc 40 then some (.invokevirtual 229, 130, 3, 1, 0) else none)
              else
                bif Nat.blt pc 44 then
                  (bif Nat.beq pc 43 then some (.istore_n 2, 2, 0, 0, 0) else none)
                else
                  bif Nat.beq pc 44 then some (.ldc 233, 0, 0, 0, 40504) else none)
            else
              bif Nat.blt pc 47 then
                (bif Nat.beq pc 46 then some (.iload_n 1, 1, 0, 0, 0) else none)
              else
                bif Nat.blt pc 48 then
                  (bif Nat.beq pc 47 then some (.isub, 0, 0, 0, 0) else none)
                else
                  bif Nat.beq pc 48 then some (.istore_n 3, 3, 0, 0, 0) else none)
          else
            bif Nat.blt pc 54 then
              (bif Nat.blt pc 50 then
                (bif Nat.beq pc 49 then some (.iconst 0, 0, 0, 0, 0) else none)
              else
                bif Nat.blt pc 52 then
                  (bif Nat.beq pc 50 then some (.istore 4, 4, 0, 0, 0) else none)
                else
                  bif Nat.beq pc 52 then some (.iload 4, 4, 0, 0, 0) else none)
            else
              bif Nat.blt pc 58 then
                (bif Nat.blt pc 55 then
                  (bif Nat.beq pc 54 then some (.aload_n 0, 0, 0, 0, 0) else none)
                else
                  bif Nat.beq pc 55 then some (.getfield 223, 10, 42, 0, 0) else none)
              else
                bif Nat.blt pc 59 then
                  (bif Nat.beq pc 58 then some (.iconst 2, 0, 0, 0, 2) else none)
                else
                  bif Nat.beq pc 59 then some (.isub, 0, 0, 0, 0) else none)
        else
          bif Nat.blt pc 71 then
            (bif Nat.blt pc 65 then
              (bif Nat.blt pc 63 then
                (bif Nat.beq pc 60 then some (.if_icmp .ge (22), 82, 0, 0, 0) else none)
              else
                bif Nat.blt pc 64 then
                  (bif Nat.beq pc 63 then some (.iload_n 3, 3, 0, 0, 0) else none)
                else
                  bif Nat.beq pc 64 then some (.aload_n 0, 0, 0, 0, 0) else none)
            else
              bif Nat.blt pc 68 then
                (bif Nat.beq pc 65 then some (.getfield 113, 10, 39, 1, 0) else none)
              else
                bif Nat.blt pc 70 then
                  (bif Nat.beq pc 68 then some (.iload 4, 4, 0, 0, 0) else none)
                else
                  bif Nat.beq pc 70 then some (.iaload, 0, 0, 0, 0) else none)
          else
            bif Nat.blt pc 75 then
              (bif Nat.blt pc 72 then
                (bif Nat.beq pc 71 then some (.ixor, 0, 0, 0, 0) else none)
              else
                bif Nat.blt pc 74 then
                  (bif Nat.beq pc 72 then some (.ldc 215, 0, 0, 0, 16777619) else none)
                else
                  bif Nat.beq pc 74 then some (.imul, 0, 0, 0, 0) else none)
            else
              bif Nat.blt pc 79 then
                (bif Nat.blt pc 76 then
                  (bif Nat.beq pc 75 then some (.istore_n 3, 3, 0, 0, 0) else none)
                else
                  bif Nat.beq pc 76 then some (.iinc 4 1, 4, 0, 0, 1) else none)
              else
                bif Nat.blt pc 82 then
                  (bif Nat.beq pc 79 then some (.goto (-27), 52, 0, 0, 0) else none)
                else
                  bif Nat.beq pc 82 then some (.iload_n 3, 3, 0, 0, 0) else none)
    else
      bif Nat.blt pc 125 then
        (bif Nat.blt pc 103 then
          (bif Nat.blt pc 91 then
            (bif Nat.blt pc 87 then
              (bif Nat.blt pc 85 then
                (bif Nat.beq pc 83 then some (.bipush 16, 0, 0, 0, 16) else none)
              else
                bif Nat.blt pc 86 then
                  (bif Nat.beq pc 85 then some (.iushr, 0, 0, 0, 0) else none)
                else
                  bif Nat.beq pc 86 then some (.iload_n 2, 2, 0, 0, 0) else none)
            else
              bif Nat.blt pc 88 then
                (bif Nat.beq pc 87 then some (.ixor, 0, 0, 0, 0) else none)
              else
                bif Nat.blt pc 90 then
                  (bif Nat.beq pc 88 then some (.ldc 216, 0, 0, 0, 65535) else none)
                else
                  bif Nat.beq pc 90 then some (.iand, 0, 0, 0, 0) else none)
          else
            bif Nat.blt pc 97 then
              (bif Nat.blt pc 93 then
                (bif Nat.beq pc 91 then some (.istore 4, 4, 0, 0, 0) else none)
              else
                bif Nat.blt pc 94 then
                  (bif Nat.beq pc 93 then some (.aload_n 0, 0, 0, 0, 0) else none)
                else
                  bif Nat.beq pc 94 then some (.getfield 113, 10, 39, 1, 0) else none)
            else
              bif Nat.blt pc 101 then
                (bif Nat.blt pc 98 then
                  (bif Nat.beq pc 97 then some (.aload_n 0, 0, 0, 0, 0) else none)
                else
                  bif Nat.beq pc 98 then some (.getfield 223, 10, 42, 0, 0) else none)
              else
                bif Nat.blt pc 102 then
                  (bif Nat.beq pc 101 then some (.iconst 2, 0, 0, 0, 2) else none)
                else
                  bif Nat.beq pc 102 then some (.isub, 0, 0, 0, 0) else none)
        else
          bif Nat.blt pc 113 then
            (bif Nat.blt pc 108 then
              (bif Nat.blt pc 104 then
                (bif Nat.beq pc 103 then some (.iaload, 0, 0, 0, 0) else none)
              else
                bif Nat.blt pc 106 then
                  (bif Nat.beq pc 104 then some (.iload 4, 4, 0, 0, 0) else none)
                else
                  bif Nat.beq pc 106 then some (.bipush 8, 0, 0, 0, 8) else none)
            else
              bif Nat.blt pc 109 then
                (bif Nat.beq pc 108 then some (.ishr, 0, 0, 0, 0) else none)
              else
                bif Nat.blt pc 112 then
                  (bif Nat.beq pc 109 then some (.if_icmp .ne (32), 141, 0, 0, 0) else none)
                else
                  bif Nat.beq pc 112 then some (.aload_n 0, 0, 0, 0, 0) else none)
          else
            bif Nat.blt pc 120 then
              (bif Nat.blt pc 116 then
                (bif Nat.beq pc 113 then some (.getfield 113, 10, 39, 1, 0) else none)
              else
                bif Nat.blt pc 117 then
                  (bif Nat.beq pc 116 then some (.aload_n 0, 0, 0, 0, 0) else none)
                else
                  bif Nat.beq pc 117 then some (.getfield 223, 10, 42, 0, 0) else none)
            else
              bif Nat.blt pc 122 then
                (bif Nat.blt pc 121 then
                  (bif Nat.beq pc 120 then some (.iconst 1, 0, 0, 0, 1) else none)
                else
                  bif Nat.beq pc 121 then some (.isub, 0, 0, 0, 0) else none)
              else
                bif Nat.blt pc 123 then
                  (bif Nat.beq pc 122 then some (.iaload, 0, 0, 0, 0) else none)
                else
                  bif Nat.beq pc 123 then some (.iload 4, 4, 0, 0, 0) else none)
      else
        bif Nat.blt pc 150 then
          (bif Nat.blt pc 135 then
            (bif Nat.blt pc 132 then
              (bif Nat.blt pc 128 then
                (bif Nat.beq pc 125 then some (.sipush 255, 0, 0, 0, 255) else none)
              else
                bif Nat.blt pc 129 then
                  (bif Nat.beq pc 128 then some (.iand, 0, 0, 0, 0) else none)
                else
                  bif Nat.beq pc 129 then some (.if_icmp .ne (12), 141, 0, 0, 0) else none)
            else
              bif Nat.blt pc 133 then
                (bif Nat.beq pc 132 then some (.aload_n 0, 0, 0, 0, 0) else none)
              else
                bif Nat.blt pc 134 then
                  (bif Nat.beq pc 133 then some (.iload_n 1, 1, 0, 0, 0) else none)
                else
                  bif Nat.beq pc 134 then some (.iload_n 2, 2, 0, 0, 0) else none)
          else
            bif Nat.blt pc 142 then
              (bif Nat.blt pc 138 then
                (bif Nat.beq pc 135 then some (.invokevirtual 171, 113, 3, 1, 0) else none)
              else
                bif Nat.blt pc 141 then
                  (bif Nat.beq pc 138 then some (.ifCond .eq (5), 143, 0, 0, 0) else none)
                else
                  bif Nat.beq pc 141 then some (.iconst 1, 0, 0, 0, 1) else none)
            else
              bif Nat.blt pc 144 then
                (bif Nat.blt pc 143 then
                  (bif Nat.beq pc 142 then some (.ireturn, 0, 0, 0, 0) else none)
                else
                  bif Nat.beq pc 143 then some (.aload_n 0, 0, 0, 0, 0) else none)
              else
                bif Nat.blt pc 147 then
                  (bif Nat.beq pc 144 then some (.getfield 95, 10, 32, 1, 0) else none)
                else
                  bif Nat.beq pc 147 then some (.sipush 320, 0, 0, 0, 320) else none)
        else
          bif Nat.blt pc 157 then
            (bif Nat.blt pc 153 then
              (bif Nat.blt pc 151 then
                (bif Nat.beq pc 150 then some (.iload_n 1, 1, 0, 0, 0) else none)
              else
                bif Nat.blt pc 152 then
                  (bif Nat.beq pc 151 then some (.imul, 0, 0, 0, 0) else none)
                else
                  bif Nat.beq pc 152 then some (.iload_n 2, 2, 0, 0, 0) else none)
            else
              bif Nat.blt pc 155 then
                (bif Nat.beq pc 153 then some (.bipush 32, 0, 0, 0, 32) else none)
              else
                bif Nat.blt pc 156 then
                  (bif Nat.beq pc 155 then some (.idiv, 0, 0, 0, 0) else none)
                else
                  bif Nat.beq pc 156 then some (.iadd, 0, 0, 0, 0) else none)
          else
            bif Nat.blt pc 164 then
              (bif Nat.blt pc 158 then
                (bif Nat.beq pc 157 then some (.aload_n 0, 0, 0, 0, 0) else none)
              else
                bif Nat.blt pc 161 then
                  (bif Nat.beq pc 158 then some (.getfield 95, 10, 32, 1, 0) else none)
                else
                  bif Nat.beq pc 161 then some (.sipush 320, 0, 0, 0, 320) else none)
            else
              bif Nat.blt pc 166 then
                (bif Nat.blt pc 165 then
                  (bif Nat.beq pc 164 then some (.iload_n 1, 1, 0, 0, 0) else none)
                else
                  bif Nat.beq pc 165 then some (.imul, 0, 0, 0, 0) else none)
              else
                bif Nat.blt pc 167 then
                  (bif Nat.beq pc 166 then some (.iload_n 2, 2, 0, 0, 0) else none)
                else
                  bif Nat.beq pc 167 then some (.bipush 32, 0, 0, 0, 32) else none)
  else
    bif Nat.blt pc 252 then
      (bif Nat.blt pc 206 then
        (bif Nat.blt pc 185 then
          (bif Nat.blt pc 176 then
            (bif Nat.blt pc 172 then
              (bif Nat.blt pc 170 then
                (bif Nat.beq pc 169 then some (.idiv, 0, 0, 0, 0) else none)
              else
                bif Nat.blt pc 171 then
                  (bif Nat.beq pc 170 then some (.iadd, 0, 0, 0, 0) else none)
                else
                  bif Nat.beq pc 171 then some (.iaload, 0, 0, 0, 0) else none)
            else
              bif Nat.blt pc 173 then
                (bif Nat.beq pc 172 then some (.iconst 1, 0, 0, 0, 1) else none)
              else
                bif Nat.blt pc 174 then
                  (bif Nat.beq pc 173 then some (.iload_n 2, 2, 0, 0, 0) else none)
                else
                  bif Nat.beq pc 174 then some (.bipush 32, 0, 0, 0, 32) else none)
          else
            bif Nat.blt pc 179 then
              (bif Nat.blt pc 177 then
                (bif Nat.beq pc 176 then some (.irem, 0, 0, 0, 0) else none)
              else
                bif Nat.blt pc 178 then
                  (bif Nat.beq pc 177 then some (.ishl, 0, 0, 0, 0) else none)
                else
                  bif Nat.beq pc 178 then some (.ior, 0, 0, 0, 0) else none)
            else
              bif Nat.blt pc 181 then
                (bif Nat.blt pc 180 then
                  (bif Nat.beq pc 179 then some (.iastore, 0, 0, 0, 0) else none)
                else
                  bif Nat.beq pc 180 then some (.aload_n 0, 0, 0, 0, 0) else none)
              else
                bif Nat.blt pc 184 then
                  (bif Nat.beq pc 181 then some (.getfield 68, 10, 23, 1, 0) else none)
                else
                  bif Nat.beq pc 184 then some (.iload_n 1, 1, 0, 0, 0) else none)
        else
          bif Nat.blt pc 195 then
            (bif Nat.blt pc 190 then
              (bif Nat.blt pc 186 then
                (bif Nat.beq pc 185 then some (.iload_n 2, 2, 0, 0, 0) else none)
              else
                bif Nat.blt pc 187 then
                  (bif Nat.beq pc 186 then some (.aload_n 0, 0, 0, 0, 0) else none)
                else
                  bif Nat.beq pc 187 then some (.getfield 68, 10, 23, 1, 0) else none)
            else
              bif Nat.blt pc 191 then
                (bif Nat.beq pc 190 then some (.iload_n 1, 1, 0, 0, 0) else none)
              else
                bif Nat.blt pc 192 then
                  (bif Nat.beq pc 191 then some (.iaload, 0, 0, 0, 0) else none)
                else
                  bif Nat.beq pc 192 then some (.if_icmp .le (7), 199, 0, 0, 0) else none)
          else
            bif Nat.blt pc 200 then
              (bif Nat.blt pc 196 then
                (bif Nat.beq pc 195 then some (.iload_n 2, 2, 0, 0, 0) else none)
              else
                bif Nat.blt pc 199 then
                  (bif Nat.beq pc 196 then some (.goto 9, 205, 0, 0, 0) else none)
                else
                  bif Nat.beq pc 199 then some (.aload_n 0, 0, 0, 0, 0) else none)
            else
              bif Nat.blt pc 204 then
                (bif Nat.blt pc 203 then
                  (bif Nat.beq pc 200 then some (.getfield 68, 10, 23, 1, 0) else none)
                else
                  bif Nat.beq pc 203 then some (.iload_n 1, 1, 0, 0, 0) else none)
              else
                bif Nat.blt pc 205 then
                  (bif Nat.beq pc 204 then some (.iaload, 0, 0, 0, 0) else none)
                else
                  bif Nat.beq pc 205 then some (.iastore, 0, 0, 0, 0) else none)
      else
        bif Nat.blt pc 228 then
          (bif Nat.blt pc 215 then
            (bif Nat.blt pc 211 then
              (bif Nat.blt pc 207 then
                (bif Nat.beq pc 206 then some (.aload_n 0, 0, 0, 0, 0) else none)
              else
                bif Nat.blt pc 208 then
                  (bif Nat.beq pc 207 then some (.iconst 1, 0, 0, 0, 1) else none)
                else
                  bif Nat.beq pc 208 then some (.putfield 220, 10, 43, 0, 0) else none)
            else
              bif Nat.blt pc 212 then
                (bif Nat.beq pc 211 then some (.iconst 0, 0, 0, 0, 0) else none)
              else
                bif Nat.blt pc 214 then
                  (bif Nat.beq pc 212 then some (.istore 5, 5, 0, 0, 0) else none)
                else
                  bif Nat.beq pc 214 then some (.aload_n 0, 0, 0, 0, 0) else none)
          else
            bif Nat.blt pc 222 then
              (bif Nat.blt pc 218 then
                (bif Nat.beq pc 215 then some (.getfield 220, 10, 43, 0, 0) else none)
              else
                bif Nat.blt pc 219 then
                  (bif Nat.beq pc 218 then some (.aload_n 0, 0, 0, 0, 0) else none)
                else
                  bif Nat.beq pc 219 then some (.getfield 223, 10, 42, 0, 0) else none)
            else
              bif Nat.blt pc 224 then
                (bif Nat.blt pc 223 then
                  (bif Nat.beq pc 222 then some (.iconst 2, 0, 0, 0, 2) else none)
                else
                  bif Nat.beq pc 223 then some (.isub, 0, 0, 0, 0) else none)
              else
                bif Nat.blt pc 227 then
                  (bif Nat.beq pc 224 then some (.if_icmp .ge (95), 319, 0, 0, 0) else none)
                else
                  bif Nat.beq pc 227 then some (.aload_n 0, 0, 0, 0, 0) else none)
        else
          bif Nat.blt pc 240 then
            (bif Nat.blt pc 233 then
              (bif Nat.blt pc 231 then
                (bif Nat.beq pc 228 then some (.getfield 74, 10, 25, 1, 0) else none)
              else
                bif Nat.blt pc 232 then
                  (bif Nat.beq pc 231 then some (.iload_n 1, 1, 0, 0, 0) else none)
                else
                  bif Nat.beq pc 232 then some (.iaload, 0, 0, 0, 0) else none)
            else
              bif Nat.blt pc 236 then
                (bif Nat.beq pc 233 then some (.ifCond .ge (86), 319, 0, 0, 0) else none)
              else
                bif Nat.blt pc 237 then
                  (bif Nat.beq pc 236 then some (.aload_n 0, 0, 0, 0, 0) else none)
                else
                  bif Nat.beq pc 237 then some (.getfield 113, 10, 39, 1, 0) else none)
          else
            bif Nat.blt pc 245 then
              (bif Nat.blt pc 241 then
                (bif Nat.beq pc 240 then some (.aload_n 0, 0, 0, 0, 0) else none)
              else
                bif Nat.blt pc 244 then
                  (bif Nat.beq pc 241 then some (.getfield 220, 10, 43, 0, 0) else none)
                else
                  bif Nat.beq pc 244 then some (.iaload, 0, 0, 0, 0) else none)
            else
              bif Nat.blt pc 248 then
                (bif Nat.blt pc 247 then
                  (bif Nat.beq pc 245 then some (.istore 6, 6, 0, 0, 0) else none)
                else
                  bif Nat.beq pc 247 then some (.aload_n 0, 0, 0, 0, 0) else none)
              else
                bif Nat.blt pc 249 then
                  (bif Nat.beq pc 248 then some (.dup, 0, 0, 1, 0) else none)
                else
                  bif Nat.beq pc 249 then some (.getfield 220, 10, 43, 0, 0) else none)
    else
      bif Nat.blt pc 298 then
        (bif Nat.blt pc 276 then
          (bif Nat.blt pc 262 then
            (bif Nat.blt pc 257 then
              (bif Nat.blt pc 253 then
                (bif Nat.beq pc 252 then some (.iconst 1, 0, 0, 0, 1) else none)
              else
                bif Nat.blt pc 254 then
                  (bif Nat.beq pc 253 then some (.iadd, 0, 0, 0, 0) else none)
                else
                  bif Nat.beq pc 254 then some (.putfield 220, 10, 43, 0, 0) else none)
            else
              bif Nat.blt pc 258 then
                (bif Nat.beq pc 257 then some (.aload_n 0, 0, 0, 0, 0) else none)
              else
                bif Nat.blt pc 259 then
                  (bif Nat.beq pc 258 then some (.iconst 0, 0, 0, 0, 0) else none)
                else
                  bif Nat.beq pc 259 then some (.putfield 226, 10, 46, 0, 0) else none)
          else
            bif Nat.blt pc 266 then
              (bif Nat.blt pc 263 then
                (bif Nat.beq pc 262 then some (.aload_n 0, 0, 0, 0, 0) else none)
              else
                bif Nat.blt pc 264 then
                  (bif Nat.beq pc 263 then some (.iload_n 1, 1, 0, 0, 0) else none)
                else
                  bif Nat.beq pc 264 then some (.iload 6, 6, 0, 0, 0) else none)
            else
              bif Nat.blt pc 271 then
                (bif Nat.blt pc 269 then
                  (bif Nat.beq pc 266 then some (.invokevirtual 234, 135, 3, 1, 0) else none)
                else
                  bif Nat.beq pc 269 then some (.istore 7, 7, 0, 0, 0) else none)
              else
                bif Nat.blt pc 273 then
                  (bif Nat.beq pc 271 then some (.iload 7, 7, 0, 0, 0) else none)
                else
                  bif Nat.beq pc 273 then some (.ifCond .le (18), 291, 0, 0, 0) else none)
        else
          bif Nat.blt pc 285 then
            (bif Nat.blt pc 281 then
              (bif Nat.blt pc 277 then
                (bif Nat.beq pc 276 then some (.aload_n 0, 0, 0, 0, 0) else none)
              else
                bif Nat.blt pc 280 then
                  (bif Nat.beq pc 277 then some (.getfield 74, 10, 25, 1, 0) else none)
                else
                  bif Nat.beq pc 280 then some (.iload_n 1, 1, 0, 0, 0) else none)
            else
              bif Nat.blt pc 283 then
                (bif Nat.beq pc 281 then some (.iload 7, 7, 0, 0, 0) else none)
              else
                bif Nat.blt pc 284 then
                  (bif Nat.beq pc 283 then some (.iastore, 0, 0, 0, 0) else none)
                else
                  bif Nat.beq pc 284 then some (.aload_n 0, 0, 0, 0, 0) else none)
          else
            bif Nat.blt pc 290 then
              (bif Nat.blt pc 288 then
                (bif Nat.beq pc 285 then some (.getfield 89, 10, 30, 1, 0) else none)
              else
                bif Nat.blt pc 289 then
                  (bif Nat.beq pc 288 then some (.iload_n 1, 1, 0, 0, 0) else none)
                else
                  bif Nat.beq pc 289 then some (.iconst 1, 0, 0, 0, 1) else none)
            else
              bif Nat.blt pc 293 then
                (bif Nat.blt pc 291 then
                  (bif Nat.beq pc 290 then some (.bastore, 0, 0, 0, 0) else none)
                else
                  bif Nat.beq pc 291 then some (.iload 5, 5, 0, 0, 0) else none)
              else
                bif Nat.blt pc 296 then
                  (bif Nat.beq pc 293 then some (.ifCond .ne (16), 309, 0, 0, 0) else none)
                else
                  bif Nat.beq pc 296 then some (.iload 6, 6, 0, 0, 0) else none)
      else
        bif Nat.blt pc 324 then
          (bif Nat.blt pc 310 then
            (bif Nat.blt pc 304 then
              (bif Nat.blt pc 299 then
                (bif Nat.beq pc 298 then some (.iconst 1, 0, 0, 0, 1) else none)
              else
                bif Nat.blt pc 302 then
                  (bif Nat.beq pc 299 then some (.if_icmp .eq (14), 313, 0, 0, 0) else none)
                else
                  bif Nat.beq pc 302 then some (.iload 6, 6, 0, 0, 0) else none)
            else
              bif Nat.blt pc 306 then
                (bif Nat.beq pc 304 then some (.bipush 6, 0, 0, 0, 6) else none)
              else
                bif Nat.blt pc 309 then
                  (bif Nat.beq pc 306 then some (.if_icmp .eq (7), 313, 0, 0, 0) else none)
                else
                  bif Nat.beq pc 309 then some (.iconst 1, 0, 0, 0, 1) else none)
          else
            bif Nat.blt pc 316 then
              (bif Nat.blt pc 313 then
                (bif Nat.beq pc 310 then some (.goto 4, 314, 0, 0, 0) else none)
              else
                bif Nat.blt pc 314 then
                  (bif Nat.beq pc 313 then some (.iconst 0, 0, 0, 0, 0) else none)
                else
                  bif Nat.beq pc 314 then some (.istore 5, 5, 0, 0, 0) else none)
            else
              bif Nat.blt pc 320 then
                (bif Nat.blt pc 319 then
                  (bif Nat.beq pc 316 then some (.goto (-102), 214, 0, 0, 0) else none)
                else
                  bif Nat.beq pc 319 then some (.aload_n 0, 0, 0, 0, 0) else none)
              else
                bif Nat.blt pc 323 then
                  (bif Nat.beq pc 320 then some (.getfield 86, 10, 29, 1, 0) else none)
                else
                  bif Nat.beq pc 323 then some (.iload_n 1, 1, 0, 0, 0) else none)
        else
          bif Nat.blt pc 335 then
            (bif Nat.blt pc 329 then
              (bif Nat.blt pc 325 then
                (bif Nat.beq pc 324 then some (.aload_n 0, 0, 0, 0, 0) else none)
              else
                bif Nat.blt pc 328 then
                  (bif Nat.beq pc 325 then some (.getfield 86, 10, 29, 1, 0) else none)
                else
                  bif Nat.beq pc 328 then some (.iload_n 1, 1, 0, 0, 0) else none)
            else
              bif Nat.blt pc 330 then
                (bif Nat.beq pc 329 then some (.baload, 0, 0, 0, 0) else none)
              else
                bif Nat.blt pc 333 then
                  (bif Nat.beq pc 330 then some (.ifCond .ne (8), 338, 0, 0, 0) else none)
                else
                  bif Nat.beq pc 333 then some (.iload 5, 5, 0, 0, 0) else none)
          else
            bif Nat.blt pc 342 then
              (bif Nat.blt pc 338 then
                (bif Nat.beq pc 335 then some (.ifCond .eq (7), 342, 0, 0, 0) else none)
              else
                bif Nat.blt pc 339 then
                  (bif Nat.beq pc 338 then some (.iconst 1, 0, 0, 0, 1) else none)
                else
                  bif Nat.beq pc 339 then some (.goto 4, 343, 0, 0, 0) else none)
            else
              bif Nat.blt pc 344 then
                (bif Nat.blt pc 343 then
                  (bif Nat.beq pc 342 then some (.iconst 0, 0, 0, 0, 0) else none)
                else
                  bif Nat.beq pc 343 then some (.bastore, 0, 0, 0, 0) else none)
              else
                bif Nat.blt pc 345 then
                  (bif Nat.beq pc 344 then some (.iconst 0, 0, 0, 0, 0) else none)
                else
                  bif Nat.beq pc 345 then some (.ireturn, 0, 0, 0, 0) else none
def i_M_receive : Nat → Option Ent := ab_tab 346 t_M_receive
def h_M_receive (pc : Nat) : Nat × List Bool := bif Nat.beq pc 52 then (1, [true, true, true, true, true, false, false, false]) else bif Nat.beq pc 205 then (1, [true, true, false, false, false, false, false, false]) else bif Nat.beq pc 214 then (1, [true, true, false, false, false, true, false, false]) else bif Nat.beq pc 291 then (1, [true, true, false, false, false, true, true, false]) else bif Nat.beq pc 309 then (1, [true, true, false, false, false, false, false, false]) else bif Nat.beq pc 313 then (1, [true, true, false, false, false, false, false, false]) else bif Nat.beq pc 314 then (1, [true, true, false, false, false, false, false, false]) else bif Nat.beq pc 319 then (1, [true, true, false, false, false, true, false, false]) else bif Nat.beq pc 338 then (1, [false, false, false, false, false, false, false, false]) else bif Nat.beq pc 343 then (1, [false, false, false, false, false, false, false, false]) else (0, [])
def s_M_receive (pc : Nat) : List (Int32 × Nat) × Nat := ([], 0)
noncomputable def eV_M_receive : Nat → List AV → Mm → Option Mm := ab_ev []
noncomputable def eI_M_receive : Nat → List AV → Mm → Option (Int32 × Mm) := ab_ev [(130, c_M_fullNumber), (113, c_M_isSeen), (135, c_M_frame)]
noncomputable def b_M_receive_0 (f : Nat) (v0 : Nat) (v1 : Int32) (m : Mm) : Option Rs := ab_ex KT none s_M_receive eV_M_receive eI_M_receive i_M_receive h_M_receive f 0 [some (.inr (.inr (28, some v0))), some (.inl v1), none, none, none, none, none, none] [] m
noncomputable def b_M_receive_52 (f : Nat) (v0 : Nat) (v1 : Int32) (v2 : Int32) (v3 : Int32) (v4 : Int32) (m : Mm) : Option Rs := ab_ex KT none s_M_receive eV_M_receive eI_M_receive i_M_receive h_M_receive f 52 [some (.inr (.inr (28, some v0))), some (.inl v1), some (.inl v2), some (.inl v3), some (.inl v4), none, none, none] [] m
noncomputable def b_M_receive_205 (f : Nat) (v0 : Nat) (v1 : Int32) (u0 : Nat) (u1 : Int32) (u2 : Int32) (m : Mm) : Option Rs := ab_ex KT none s_M_receive eV_M_receive eI_M_receive i_M_receive h_M_receive f 205 [some (.inr (.inr (28, some v0))), some (.inl v1), none, none, none, none, none, none] [.inl u2, .inl u1, .inr (.inr (48, some u0))] m
noncomputable def b_M_receive_214 (f : Nat) (v0 : Nat) (v1 : Int32) (v5 : Int32) (m : Mm) : Option Rs := ab_ex KT none s_M_receive eV_M_receive eI_M_receive i_M_receive h_M_receive f 214 [some (.inr (.inr (28, some v0))), some (.inl v1), none, none, none, some (.inl v5), none, none] [] m
noncomputable def b_M_receive_291 (f : Nat) (v0 : Nat) (v1 : Int32) (v5 : Int32) (v6 : Int32) (m : Mm) : Option Rs := ab_ex KT none s_M_receive eV_M_receive eI_M_receive i_M_receive h_M_receive f 291 [some (.inr (.inr (28, some v0))), some (.inl v1), none, none, none, some (.inl v5), some (.inl v6), none] [] m
noncomputable def b_M_receive_309 (f : Nat) (v0 : Nat) (v1 : Int32) (m : Mm) : Option Rs := ab_ex KT none s_M_receive eV_M_receive eI_M_receive i_M_receive h_M_receive f 309 [some (.inr (.inr (28, some v0))), some (.inl v1), none, none, none, none, none, none] [] m
noncomputable def b_M_receive_313 (f : Nat) (v0 : Nat) (v1 : Int32) (m : Mm) : Option Rs := ab_ex KT none s_M_receive eV_M_receive eI_M_receive i_M_receive h_M_receive f 313 [some (.inr (.inr (28, some v0))), some (.inl v1), none, none, none, none, none, none] [] m
noncomputable def b_M_receive_314 (f : Nat) (v0 : Nat) (v1 : Int32) (u0 : Int32) (m : Mm) : Option Rs := ab_ex KT none s_M_receive eV_M_receive eI_M_receive i_M_receive h_M_receive f 314 [some (.inr (.inr (28, some v0))), some (.inl v1), none, none, none, none, none, none] [.inl u0] m
noncomputable def b_M_receive_319 (f : Nat) (v0 : Nat) (v1 : Int32) (v5 : Int32) (m : Mm) : Option Rs := ab_ex KT none s_M_receive eV_M_receive eI_M_receive i_M_receive h_M_receive f 319 [some (.inr (.inr (28, some v0))), some (.inl v1), none, none, none, some (.inl v5), none, none] [] m
noncomputable def b_M_receive_338 (f : Nat) (u0 : Nat) (u1 : Int32) (m : Mm) : Option Rs := ab_ex KT none s_M_receive eV_M_receive eI_M_receive i_M_receive h_M_receive f 338 [none, none, none, none, none, none, none, none] [.inl u1, .inr (.inr (54, some u0))] m
noncomputable def b_M_receive_343 (f : Nat) (u0 : Nat) (u1 : Int32) (u2 : Int32) (m : Mm) : Option Rs := ab_ex KT none s_M_receive eV_M_receive eI_M_receive i_M_receive h_M_receive f 343 [none, none, none, none, none, none, none, none] [.inl u2, .inl u1, .inr (.inr (54, some u0))] m
set_option maxRecDepth 100000 in
set_option maxHeartbeats 4000000 in
theorem b_M_receive_0_eq (f : Nat) (v0 : Nat) (v1 : Int32) (m : Mm) : b_M_receive_0 (f + 1) v0 v1 m =
    (ab_ix v1 2).bind fun i1 =>
    if (m.1 154 (v0 + 22) i1) < 0 then
      if (m.1 123 v0 0) < (3 : Int32) then
        some (.inl (some (.inl (1 : Int32)), m))
      else
        (ab_ix (0 : Int32) 48).bind fun i2 =>
        if (m.1 167 (v0 + 35) i2) ≤ (15 : Int32) then
          (ab_ix (0 : Int32) 48).bind fun i3 =>
          (r_M_fullNumber v0 v1 (m.1 167 (v0 + 35) i3) m).bind fun z4 =>
          ab_let (((40504 : Int32) - v1)) fun x5 =>
          b_M_receive_52 f v0 v1 z4.1 x5 (0 : Int32) z4.2
        else
          some (.inl (some (.inl (1 : Int32)), m))
    else
      some (.inl (some (.inl (2 : Int32)), m)) := rfl
set_option maxRecDepth 100000 in
set_option maxHeartbeats 4000000 in
theorem b_M_receive_52_eq (f : Nat) (v0 : Nat) (v1 : Int32) (v2 : Int32) (v3 : Int32) (v4 : Int32) (m : Mm) : b_M_receive_52 (f + 1) v0 v1 v2 v3 v4 m =
    if ((m.1 123 v0 0) - (2 : Int32)) ≤ v4 then
      ab_let (((((v3).toUInt32 >>> (((16 : Int32)).toUInt32 &&& Int32.toUInt32 31)).toInt32 ^^^ v2) &&& (65535 : Int32))) fun x1 =>
      (ab_ix ((m.1 123 v0 0) - (2 : Int32)) 48).bind fun i2 =>
      if (m.1 167 (v0 + 35) i2) = (x1 >>> ((8 : Int32) &&& 31)) then
        (ab_ix ((m.1 123 v0 0) - (1 : Int32)) 48).bind fun i3 =>
        if (m.1 167 (v0 + 35) i3) = (x1 &&& (255 : Int32)) then
          (r_M_isSeen v0 v1 v2 m).bind fun z4 =>
          if z4.1 = 0 then
            if (32 : Int32) = 0 then none else
            if (32 : Int32) = 0 then none else
            (ab_ix (((320 : Int32) * v1) + (v2 / (32 : Int32))) 640).bind fun i5 =>
            if (32 : Int32) = 0 then none else
            (ab_ix (((320 : Int32) * v1) + (v2 / (32 : Int32))) 640).bind fun i6 =>
            ab_let (ab_uI z4.2 161 (v0 + 29) i6 ((z4.2.1 161 (v0 + 29) i5) ||| ((1 : Int32) <<< ((v2 - v2 / (32 : Int32) * (32 : Int32)) &&& 31)))) fun m7 =>
            (ab_ix v1 2).bind fun i8 =>
            if v2 ≤ (m7.1 152 (v0 + 20) i8) then
              (ab_ix v1 2).bind fun i9 =>
              b_M_receive_205 f v0 v1 (v0 + 20) v1 (m7.1 152 (v0 + 20) i9) m7
            else
              b_M_receive_205 f v0 v1 (v0 + 20) v1 v2 m7
          else
            some (.inl (some (.inl (1 : Int32)), z4.2))
        else
          some (.inl (some (.inl (1 : Int32)), m))
      else
        some (.inl (some (.inl (1 : Int32)), m))
    else
      (ab_ix v4 48).bind fun i10 =>
      ab_let (((v3 ^^^ (m.1 167 (v0 + 35) i10)) * (16777619 : Int32))) fun x11 =>
      ab_let (v4 + (1 : Int32)) fun x12 =>
      b_M_receive_52 f v0 v1 v2 x11 x12 m := rfl
set_option maxRecDepth 100000 in
set_option maxHeartbeats 4000000 in
theorem b_M_receive_205_eq (f : Nat) (v0 : Nat) (v1 : Int32) (u0 : Nat) (u1 : Int32) (u2 : Int32) (m : Mm) : b_M_receive_205 (f + 1) v0 v1 u0 u1 u2 m =
    (ab_ix u1 2).bind fun i1 =>
    ab_let (ab_uI m 152 u0 i1 u2) fun m2 =>
    ab_let (ab_uI m2 124 v0 0 (1 : Int32)) fun m3 =>
    b_M_receive_214 f v0 v1 (0 : Int32) m3 := rfl
set_option maxRecDepth 100000 in
set_option maxHeartbeats 4000000 in
theorem b_M_receive_214_eq (f : Nat) (v0 : Nat) (v1 : Int32) (v5 : Int32) (m : Mm) : b_M_receive_214 (f + 1) v0 v1 v5 m =
    if ((m.1 123 v0 0) - (2 : Int32)) ≤ (m.1 124 v0 0) then
      b_M_receive_319 f v0 v1 v5 m
    else
      (ab_ix v1 2).bind fun i1 =>
      if 0 ≤ (m.1 154 (v0 + 22) i1) then
        b_M_receive_319 f v0 v1 v5 m
      else
        (ab_ix (m.1 124 v0 0) 48).bind fun i2 =>
        ab_let ((m.1 167 (v0 + 35) i2)) fun x3 =>
        ab_let (ab_uI m 124 v0 0 ((m.1 124 v0 0) + (1 : Int32))) fun m4 =>
        (ab_bo (0 : Int32)).bind fun y6 =>
        ab_let (ab_uI m4 127 v0 0 y6) fun m5 =>
        (r_M_frame v0 v1 x3 m5).bind fun z7 =>
        if z7.1 ≤ 0 then
          b_M_receive_291 f v0 v1 v5 x3 z7.2
        else
          (ab_ix v1 2).bind fun i8 =>
          ab_let (ab_uI z7.2 154 (v0 + 22) i8 z7.1) fun m9 =>
          (ab_ix v1 2).bind fun i10 =>
          (ab_bo (1 : Int32)).bind fun y12 =>
          ab_let (ab_uI m9 159 (v0 + 27) i10 y12) fun m11 =>
          b_M_receive_291 f v0 v1 v5 x3 m11 := rfl
set_option maxRecDepth 100000 in
set_option maxHeartbeats 4000000 in
theorem b_M_receive_291_eq (f : Nat) (v0 : Nat) (v1 : Int32) (v5 : Int32) (v6 : Int32) (m : Mm) : b_M_receive_291 (f + 1) v0 v1 v5 v6 m =
    if v5 = 0 then
      if v6 = (1 : Int32) then
        b_M_receive_313 f v0 v1 m
      else
        if v6 = (6 : Int32) then
          b_M_receive_313 f v0 v1 m
        else
          b_M_receive_309 f v0 v1 m
    else
      b_M_receive_309 f v0 v1 m := rfl
set_option maxRecDepth 100000 in
set_option maxHeartbeats 4000000 in
theorem b_M_receive_309_eq (f : Nat) (v0 : Nat) (v1 : Int32) (m : Mm) : b_M_receive_309 (f + 1) v0 v1 m =
    b_M_receive_314 f v0 v1 (1 : Int32) m := rfl
set_option maxRecDepth 100000 in
set_option maxHeartbeats 4000000 in
theorem b_M_receive_313_eq (f : Nat) (v0 : Nat) (v1 : Int32) (m : Mm) : b_M_receive_313 (f + 1) v0 v1 m =
    b_M_receive_314 f v0 v1 (0 : Int32) m := rfl
set_option maxRecDepth 100000 in
set_option maxHeartbeats 4000000 in
theorem b_M_receive_314_eq (f : Nat) (v0 : Nat) (v1 : Int32) (u0 : Int32) (m : Mm) : b_M_receive_314 (f + 1) v0 v1 u0 m =
    b_M_receive_214 f v0 v1 u0 m := rfl
set_option maxRecDepth 100000 in
set_option maxHeartbeats 4000000 in
theorem b_M_receive_319_eq (f : Nat) (v0 : Nat) (v1 : Int32) (v5 : Int32) (m : Mm) : b_M_receive_319 (f + 1) v0 v1 v5 m =
    (ab_ix v1 2).bind fun i1 =>
    if (m.1 158 (v0 + 26) i1) = 0 then
      if v5 = 0 then
        b_M_receive_343 f (v0 + 26) v1 (0 : Int32) m
      else
        b_M_receive_338 f (v0 + 26) v1 m
    else
      b_M_receive_338 f (v0 + 26) v1 m := rfl
set_option maxRecDepth 100000 in
set_option maxHeartbeats 4000000 in
theorem b_M_receive_338_eq (f : Nat) (u0 : Nat) (u1 : Int32) (m : Mm) : b_M_receive_338 (f + 1) u0 u1 m =
    b_M_receive_343 f u0 u1 (1 : Int32) m := rfl
set_option maxRecDepth 100000 in
set_option maxHeartbeats 4000000 in
theorem b_M_receive_343_eq (f : Nat) (u0 : Nat) (u1 : Int32) (u2 : Int32) (m : Mm) : b_M_receive_343 (f + 1) u0 u1 u2 m =
    (ab_ix u1 2).bind fun i1 =>
    (ab_bo u2).bind fun y3 =>
    ab_let (ab_uI m 158 u0 i1 y3) fun m2 =>
    some (.inl (some (.inl (0 : Int32)), m2)) := rfl
noncomputable def r_M_receive : Nat → Int32 → Mm → Option (Int32 × Mm) := ab_seal fun v0 v1 m => ab_rI (b_M_receive_0 50000 v0 v1 m)
theorem r_M_receive_eq (v0 : Nat) (v1 : Int32) (m : Mm) : r_M_receive v0 v1 m = ab_rI (b_M_receive_0 50000 v0 v1 m) := by
  unfold r_M_receive
  rw [ab_seal_eq]
noncomputable def c_M_receive : List AV → Mm → Option (Int32 × Mm) := fun av m => match av with
  | [.inr (.inr (kv0, ov0)), .inl v1] => if kv0 = 28 then (ov0.bind fun v0 => r_M_receive v0 v1 m) else none
  | _ => none
theorem c_M_receive_inv {av : List AV} {m : Mm} {r : Int32 × Mm} (h : c_M_receive av m = some r) : ∃ (v0 : Nat) (v1 : Int32), av = [.inr (.inr (28, some v0)), .inl v1] ∧ r_M_receive v0 v1 m = some r := by
  unfold c_M_receive at h
  split at h
  · rename_i kv0 ov0 v1
    by_cases hkv0 : kv0 = 28
    case neg => rw [if_neg hkv0] at h; cases h
    rw [if_pos hkv0] at h
    subst hkv0
    obtain ⟨v0, hev0, h⟩ := Option.bind_eq_some_iff.mp h
    subst hev0
    exact ⟨v0, v1, rfl, h⟩
  · cases h
def cs_M_receive : List Nat := [40, 135, 266]
set_option maxRecDepth 100000 in
theorem E_M_receive : ∀ (pc : Nat) (q : Ent), i_M_receive pc = some q → ab_E KT CL ab_gW "StreamTransportModel" "receive" (some .int) prog_12_method_31_code s_M_receive 8 pc q.1 q.2.1 q.2.2.1 q.2.2.2.1 q.2.2.2.2 := fun pc q hq =>
  ab_Eb_ok lc_M lj_M fl_M (fpn_M "receive") nw_M na_M nq_M (ab_tab_all (t := t_M_receive) (chk := fun pc q => ab_Eb (some .int) prog_12_method_31_code s_M_receive 8 LC_M LJ_M FL_M FPn_M NW_M NA_M NQ_M pc q.1 q.2.1 q.2.2.1 q.2.2.2.1 q.2.2.2.2) (by decide +kernel) hq)
set_option maxRecDepth 100000 in
theorem kp_M_receive {av : List AV} {m : Mm} {r : Int32 × Mm} (h : c_M_receive av m = some r) : ab_kp m r.2 := by
  obtain ⟨v0, v1, -, h⟩ := c_M_receive_inv h
  rw [r_M_receive_eq] at h
  have hV : ∀ a av m m', eV_M_receive a av m = some m' → ab_kp m m' := ab_ev_all (P := fun _ m r => ab_kp m r) [] (fun q hq => by cases hq)
  have hI : ∀ a av m q, eI_M_receive a av m = some q → ab_kp m q.2 := ab_ev_all (P := fun _ (m : Mm) (r : Int32 × Mm) => ab_kp m r.2) [(130, c_M_fullNumber), (113, c_M_isSeen), (135, c_M_frame)] (List.forall_mem_cons.mpr ⟨fun av m r h => kp_M_fullNumber h, List.forall_mem_cons.mpr ⟨fun av m r h => kp_M_isSeen h, List.forall_mem_cons.mpr ⟨fun av m r h => kp_M_frame h, fun q hq => by cases hq⟩⟩⟩)
  exact ab_kprel (ρ := .inl (some (.inl r.1), r.2)) (ab_tab_isn (t := t_M_receive) (by decide +kernel)) hV hI (ab_rI_inv h)
set_option maxRecDepth 100000 in
theorem cl_M_receive (l : Launch) : ∀ (pc : Nat) (q : Ent), i_M_receive pc = some q → ab_inv q.1 = true → ab_CR l KT CL none ab_gW "StreamTransportModel" prog_12_method_31_code 8 4 93 eV_M_receive eI_M_receive pc q := by
  intro pc q hq hi
  have hm : pc ∈ cs_M_receive := ab_tab_cs (t := t_M_receive) (by decide +kernel) hq hi
  simp only [cs_M_receive, List.mem_cons, List.not_mem_nil, or_false] at hm
  rcases hm with rfl | rfl | rfl
  · cases (Option.some.inj hq : ((.invokevirtual 229, 130, 3, 1, 0) : Ent) = q)
    exact ab_crV (C := "StreamTransportModel") (by decide +kernel) cw_M_fullNumber (ab_gW_in 1260 (by decide +kernel) rfl) is_M_fullNumber sl_M_fullNumber (by decide) (fun av m m' h => by cases h) (fun av m r h => cm_M_fullNumber l h) KT_nd
  · cases (Option.some.inj hq : ((.invokevirtual 171, 113, 3, 1, 0) : Ent) = q)
    exact ab_crV (C := "StreamTransportModel") (by decide +kernel) cw_M_isSeen (ab_gW_in 1209 (by decide +kernel) rfl) is_M_isSeen sl_M_isSeen (by decide) (fun av m m' h => by cases h) (fun av m r h => cm_M_isSeen l h) KT_nd
  · cases (Option.some.inj hq : ((.invokevirtual 234, 135, 3, 1, 0) : Ent) = q)
    exact ab_crV (C := "StreamTransportModel") (by decide +kernel) cw_M_frame (ab_gW_in 1265 (by decide +kernel) rfl) is_M_frame sl_M_frame (by decide) (fun av m m' h => by cases h) (fun av m r h => cm_M_frame l h) KT_nd
theorem cw_M_receive : ab_cw y_M_receive prog_12_method_31_code 8 1 (some .int) := ⟨ab_gW_in 1259 (by decide +kernel) rfl, ab_gW_in 71 (by decide +kernel) rfl, by decide +kernel, by decide +kernel, by decide +kernel⟩
theorem is_M_receive : Cond.instanceMethod y_M_receive ∈ ab_gW := ab_gW_in 1258 (by decide +kernel) rfl
theorem sl_M_receive : Cond.selects "StreamTransportModel" y_M_receive y_M_receive ∈ ab_gW := ab_gW_in 48 (by decide +kernel) rfl
set_option maxRecDepth 100000 in
theorem cm_M_receive (l : Launch) {av : List AV} {m : Mm} {r : Int32 × Mm} (h0 : c_M_receive av m = some r) : ∃ (k q : Nat) (av' : List AV) (ci : Nat) (fs : List (Nat × Nat × Nat × Nat)) (z : vw_C), av = .inr (.inr (k, some q)) :: av' ∧ av'.length = 1 ∧ k ≠ 0 ∧ KT[k]? = some (.inl (ci, fs)) ∧ CL[ci]? = some z ∧ z.1 = "StreamTransportModel" ∧ ab_nos av' ∧ ab_Met l KT CL y_M_receive (Cond.code y_M_receive prog_12_method_31_code 8 (some .int) :: ab_gW) 4 93 none av m (some (.inl r.1)) r.2 := by
  obtain ⟨v0, v1, hav, h⟩ := c_M_receive_inv h0
  rw [r_M_receive_eq] at h
  have hmo : ab_mo m r.2 := ab_kp_mo (kp_M_receive h0)
  subst hav
  exact ⟨_, _, _, _, _, _, rfl, rfl, by decide, rfl, rfl, rfl, (by intro v hv q e; subst e; simp at hv), ab_met (by decide +kernel) KT_0 KT_nd KT_k3 E_M_receive (cl_M_receive l) hmo (Nat.le_of_ble_eq_true rfl) (ab_rI_inv h) (fun v hv => by cases hv; exact ⟨_, rfl⟩)⟩
end
