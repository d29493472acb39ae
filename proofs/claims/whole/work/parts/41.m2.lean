section
/-! StreamTransportModel.putAck(I)V -/
def y_M_putAck : MethodName := ⟨"StreamTransportModel", "putAck", "(I)V"⟩
def t_M_putAck (pc : Nat) : Option Ent :=
  bif Nat.blt pc 94 then
    (bif Nat.blt pc 47 then
      (bif Nat.blt pc 19 then
        (bif Nat.blt pc 8 then
          (bif Nat.blt pc 3 then
            (bif Nat.blt pc 1 then
              (bif Nat.beq pc 0 then some (.iconst 0, 0, 0, 0, 0) else none)
            else
              bif Nat.blt pc 2 then
                (bif Nat.beq pc 1 then some (.istore_n 2, 2, 0, 0, 0) else none)
              else
                bif Nat.beq pc 2 then some (.aload_n 0, 0, 0, 0, 0) else none)
          else
            bif Nat.blt pc 6 then
              (bif Nat.beq pc 3 then some (.getfield 68, 10, 23, 1, 0) else none)
            else
              bif Nat.blt pc 7 then
                (bif Nat.beq pc 6 then some (.iload_n 1, 1, 0, 0, 0) else none)
              else
                bif Nat.beq pc 7 then some (.iaload, 0, 0, 0, 0) else none)
        else
          bif Nat.blt pc 13 then
            (bif Nat.blt pc 9 then
              (bif Nat.beq pc 8 then some (.istore_n 3, 3, 0, 0, 0) else none)
            else
              bif Nat.blt pc 10 then
                (bif Nat.beq pc 9 then some (.iload_n 3, 3, 0, 0, 0) else none)
              else
                bif Nat.beq pc 10 then some (.ifCond .lt (68), 78, 0, 0, 0) else none)
          else
            bif Nat.blt pc 15 then
              (bif Nat.blt pc 14 then
                (bif Nat.beq pc 13 then some (.iload_n 2, 2, 0, 0, 0) else none)
              else
                bif Nat.beq pc 14 then some (.iconst 3, 0, 0, 0, 3) else none)
            else
              bif Nat.blt pc 18 then
                (bif Nat.beq pc 15 then some (.if_icmp .ge (63), 78, 0, 0, 0) else none)
              else
                bif Nat.beq pc 18 then some (.iload_n 3, 3, 0, 0, 0) else none)
      else
        bif Nat.blt pc 34 then
          (bif Nat.blt pc 24 then
            (bif Nat.blt pc 22 then
              (bif Nat.beq pc 19 then some (.ifCond .lt (18), 37, 0, 0, 0) else none)
            else
              bif Nat.blt pc 23 then
                (bif Nat.beq pc 22 then some (.aload_n 0, 0, 0, 0, 0) else none)
              else
                bif Nat.beq pc 23 then some (.iload_n 1, 1, 0, 0, 0) else none)
          else
            bif Nat.blt pc 28 then
              (bif Nat.blt pc 25 then
                (bif Nat.beq pc 24 then some (.iload_n 3, 3, 0, 0, 0) else none)
              else
                bif Nat.beq pc 25 then some (.invokevirtual 171, 113, 3, 1, 0) else none)
            else
              bif Nat.blt pc 31 then
                (bif Nat.beq pc 28 then some (.ifCond .ne (9), 37, 0, 0, 0) else none)
              else
                bif Nat.beq pc 31 then some (.iinc 3 (-1), 3, 0, 0, -1) else none)
        else
          bif Nat.blt pc 41 then
            (bif Nat.blt pc 37 then
              (bif Nat.beq pc 34 then some (.goto (-16), 18, 0, 0, 0) else none)
            else
              bif Nat.blt pc 38 then
                (bif Nat.beq pc 37 then some (.iload_n 3, 3, 0, 0, 0) else none)
              else
                bif Nat.beq pc 38 then some (.ifCond .lt (-29), 9, 0, 0, 0) else none)
          else
            bif Nat.blt pc 45 then
              (bif Nat.blt pc 42 then
                (bif Nat.beq pc 41 then some (.aload_n 0, 0, 0, 0, 0) else none)
              else
                bif Nat.beq pc 42 then some (.getfield 122, 10, 47, 1, 0) else none)
            else
              bif Nat.blt pc 46 then
                (bif Nat.beq pc 45 then some (.iload_n 2, 2, 0, 0, 0) else none)
              else
                bif Nat.beq pc 46 then some (.iload_n 3, 3, 0, 0, 0) else none)
    else
      bif Nat.blt pc 70 then
        (bif Nat.blt pc 57 then
          (bif Nat.blt pc 50 then
            (bif Nat.blt pc 48 then
              (bif Nat.beq pc 47 then some (.iastore, 0, 0, 0, 0) else none)
            else
              bif Nat.blt pc 49 then
                (bif Nat.beq pc 48 then some (.aload_n 0, 0, 0, 0, 0) else none)
              else
                bif Nat.beq pc 49 then some (.iload_n 1, 1, 0, 0, 0) else none)
          else
            bif Nat.blt pc 51 then
              (bif Nat.beq pc 50 then some (.iload_n 3, 3, 0, 0, 0) else none)
            else
              bif Nat.blt pc 54 then
                (bif Nat.beq pc 51 then some (.invokevirtual 171, 113, 3, 1, 0) else none)
              else
                bif Nat.beq pc 54 then some (.ifCond .eq (9), 63, 0, 0, 0) else none)
        else
          bif Nat.blt pc 64 then
            (bif Nat.blt pc 60 then
              (bif Nat.beq pc 57 then some (.iinc 3 (-1), 3, 0, 0, -1) else none)
            else
              bif Nat.blt pc 63 then
                (bif Nat.beq pc 60 then some (.goto (-12), 48, 0, 0, 0) else none)
              else
                bif Nat.beq pc 63 then some (.aload_n 0, 0, 0, 0, 0) else none)
          else
            bif Nat.blt pc 68 then
              (bif Nat.blt pc 67 then
                (bif Nat.beq pc 64 then some (.getfield 125, 10, 48, 1, 0) else none)
              else
                bif Nat.beq pc 67 then some (.iload_n 2, 2, 0, 0, 0) else none)
            else
              bif Nat.blt pc 69 then
                (bif Nat.beq pc 68 then some (.iload_n 3, 3, 0, 0, 0) else none)
              else
                bif Nat.beq pc 69 then some (.iconst 1, 0, 0, 0, 1) else none)
      else
        bif Nat.blt pc 83 then
          (bif Nat.blt pc 75 then
            (bif Nat.blt pc 71 then
              (bif Nat.beq pc 70 then some (.iadd, 0, 0, 0, 0) else none)
            else
              bif Nat.blt pc 72 then
                (bif Nat.beq pc 71 then some (.iastore, 0, 0, 0, 0) else none)
              else
                bif Nat.beq pc 72 then some (.iinc 2 1, 2, 0, 0, 1) else none)
          else
            bif Nat.blt pc 79 then
              (bif Nat.blt pc 78 then
                (bif Nat.beq pc 75 then some (.goto (-66), 9, 0, 0, 0) else none)
              else
                bif Nat.beq pc 78 then some (.aload_n 0, 0, 0, 0, 0) else none)
            else
              bif Nat.blt pc 80 then
                (bif Nat.beq pc 79 then some (.iconst 1, 0, 0, 0, 1) else none)
              else
                bif Nat.beq pc 80 then some (.invokevirtual 168, 110, 2, 0, 0) else none)
        else
          bif Nat.blt pc 88 then
            (bif Nat.blt pc 84 then
              (bif Nat.beq pc 83 then some (.aload_n 0, 0, 0, 0, 0) else none)
            else
              bif Nat.blt pc 85 then
                (bif Nat.beq pc 84 then some (.aload_n 0, 0, 0, 0, 0) else none)
              else
                bif Nat.beq pc 85 then some (.getfield 122, 10, 47, 1, 0) else none)
          else
            bif Nat.blt pc 90 then
              (bif Nat.blt pc 89 then
                (bif Nat.beq pc 88 then some (.iconst 0, 0, 0, 0, 0) else none)
              else
                bif Nat.beq pc 89 then some (.iaload, 0, 0, 0, 0) else none)
            else
              bif Nat.blt pc 93 then
                (bif Nat.beq pc 90 then some (.invokevirtual 174, 111, 2, 0, 0) else none)
              else
                bif Nat.beq pc 93 then some (.aload_n 0, 0, 0, 0, 0) else none)
  else
    bif Nat.blt pc 136 then
      (bif Nat.blt pc 113 then
        (bif Nat.blt pc 104 then
          (bif Nat.blt pc 99 then
            (bif Nat.blt pc 95 then
              (bif Nat.beq pc 94 then some (.aload_n 0, 0, 0, 0, 0) else none)
            else
              bif Nat.blt pc 98 then
                (bif Nat.beq pc 95 then some (.getfield 122, 10, 47, 1, 0) else none)
              else
                bif Nat.beq pc 98 then some (.iconst 0, 0, 0, 0, 0) else none)
          else
            bif Nat.blt pc 100 then
              (bif Nat.beq pc 99 then some (.iaload, 0, 0, 0, 0) else none)
            else
              bif Nat.blt pc 101 then
                (bif Nat.beq pc 100 then some (.aload_n 0, 0, 0, 0, 0) else none)
              else
                bif Nat.beq pc 101 then some (.getfield 125, 10, 48, 1, 0) else none)
        else
          bif Nat.blt pc 107 then
            (bif Nat.blt pc 105 then
              (bif Nat.beq pc 104 then some (.iconst 0, 0, 0, 0, 0) else none)
            else
              bif Nat.blt pc 106 then
                (bif Nat.beq pc 105 then some (.iaload, 0, 0, 0, 0) else none)
              else
                bif Nat.beq pc 106 then some (.isub, 0, 0, 0, 0) else none)
          else
            bif Nat.blt pc 111 then
              (bif Nat.blt pc 110 then
                (bif Nat.beq pc 107 then some (.invokevirtual 174, 111, 2, 0, 0) else none)
              else
                bif Nat.beq pc 110 then some (.aload_n 0, 0, 0, 0, 0) else none)
            else
              bif Nat.blt pc 112 then
                (bif Nat.beq pc 111 then some (.iload_n 2, 2, 0, 0, 0) else none)
              else
                bif Nat.beq pc 112 then some (.iconst 1, 0, 0, 0, 1) else none)
      else
        bif Nat.blt pc 126 then
          (bif Nat.blt pc 118 then
            (bif Nat.blt pc 114 then
              (bif Nat.beq pc 113 then some (.isub, 0, 0, 0, 0) else none)
            else
              bif Nat.blt pc 117 then
                (bif Nat.beq pc 114 then some (.invokevirtual 174, 111, 2, 0, 0) else none)
              else
                bif Nat.beq pc 117 then some (.iconst 1, 0, 0, 0, 1) else none)
          else
            bif Nat.blt pc 122 then
              (bif Nat.blt pc 120 then
                (bif Nat.beq pc 118 then some (.istore 4, 4, 0, 0, 0) else none)
              else
                bif Nat.beq pc 120 then some (.iload 4, 4, 0, 0, 0) else none)
            else
              bif Nat.blt pc 123 then
                (bif Nat.beq pc 122 then some (.iload_n 2, 2, 0, 0, 0) else none)
              else
                bif Nat.beq pc 123 then some (.if_icmp .ge (51), 174, 0, 0, 0) else none)
        else
          bif Nat.blt pc 131 then
            (bif Nat.blt pc 127 then
              (bif Nat.beq pc 126 then some (.aload_n 0, 0, 0, 0, 0) else none)
            else
              bif Nat.blt pc 128 then
                (bif Nat.beq pc 127 then some (.aload_n 0, 0, 0, 0, 0) else none)
              else
                bif Nat.beq pc 128 then some (.getfield 125, 10, 48, 1, 0) else none)
          else
            bif Nat.blt pc 134 then
              (bif Nat.blt pc 133 then
                (bif Nat.beq pc 131 then some (.iload 4, 4, 0, 0, 0) else none)
              else
                bif Nat.beq pc 133 then some (.iconst 1, 0, 0, 0, 1) else none)
            else
              bif Nat.blt pc 135 then
                (bif Nat.beq pc 134 then some (.isub, 0, 0, 0, 0) else none)
              else
                bif Nat.beq pc 135 then some (.iaload, 0, 0, 0, 0) else none)
    else
      bif Nat.blt pc 157 then
        (bif Nat.blt pc 145 then
          (bif Nat.blt pc 142 then
            (bif Nat.blt pc 137 then
              (bif Nat.beq pc 136 then some (.aload_n 0, 0, 0, 0, 0) else none)
            else
              bif Nat.blt pc 140 then
                (bif Nat.beq pc 137 then some (.getfield 122, 10, 47, 1, 0) else none)
              else
                bif Nat.beq pc 140 then some (.iload 4, 4, 0, 0, 0) else none)
          else
            bif Nat.blt pc 143 then
              (bif Nat.beq pc 142 then some (.iaload, 0, 0, 0, 0) else none)
            else
              bif Nat.blt pc 144 then
                (bif Nat.beq pc 143 then some (.isub, 0, 0, 0, 0) else none)
              else
                bif Nat.beq pc 144 then some (.iconst 2, 0, 0, 0, 2) else none)
        else
          bif Nat.blt pc 150 then
            (bif Nat.blt pc 146 then
              (bif Nat.beq pc 145 then some (.isub, 0, 0, 0, 0) else none)
            else
              bif Nat.blt pc 149 then
                (bif Nat.beq pc 146 then some (.invokevirtual 174, 111, 2, 0, 0) else none)
              else
                bif Nat.beq pc 149 then some (.aload_n 0, 0, 0, 0, 0) else none)
          else
            bif Nat.blt pc 154 then
              (bif Nat.blt pc 151 then
                (bif Nat.beq pc 150 then some (.aload_n 0, 0, 0, 0, 0) else none)
              else
                bif Nat.beq pc 151 then some (.getfield 122, 10, 47, 1, 0) else none)
            else
              bif Nat.blt pc 156 then
                (bif Nat.beq pc 154 then some (.iload 4, 4, 0, 0, 0) else none)
              else
                bif Nat.beq pc 156 then some (.iaload, 0, 0, 0, 0) else none)
      else
        bif Nat.blt pc 171 then
          (bif Nat.blt pc 163 then
            (bif Nat.blt pc 158 then
              (bif Nat.beq pc 157 then some (.aload_n 0, 0, 0, 0, 0) else none)
            else
              bif Nat.blt pc 161 then
                (bif Nat.beq pc 158 then some (.getfield 125, 10, 48, 1, 0) else none)
              else
                bif Nat.beq pc 161 then some (.iload 4, 4, 0, 0, 0) else none)
          else
            bif Nat.blt pc 165 then
              (bif Nat.blt pc 164 then
                (bif Nat.beq pc 163 then some (.iaload, 0, 0, 0, 0) else none)
              else
                bif Nat.beq pc 164 then some (.isub, 0, 0, 0, 0) else none)
            else
              bif Nat.blt pc 168 then
                (bif Nat.beq pc 165 then some (.invokevirtual 174, 111, 2, 0, 0) else none)
              else
                bif Nat.beq pc 168 then some (.iinc 4 1, 4, 0, 0, 1) else none)
        else
          bif Nat.blt pc 178 then
            (bif Nat.blt pc 174 then
              (bif Nat.beq pc 171 then some (.goto (-51), 120, 0, 0, 0) else none)
            else
              bif Nat.blt pc 175 then
                (bif Nat.beq pc 174 then some (.aload_n 0, 0, 0, 0, 0) else none)
              else
                bif Nat.beq pc 175 then some (.getfield 86, 10, 29, 1, 0) else none)
          else
            bif Nat.blt pc 180 then
              (bif Nat.blt pc 179 then
                (bif Nat.beq pc 178 then some (.iload_n 1, 1, 0, 0, 0) else none)
              else
                bif Nat.beq pc 179 then some (.iconst 0, 0, 0, 0, 0) else none)
            else
              bif Nat.blt pc 181 then
                (bif Nat.beq pc 180 then some (.bastore, 0, 0, 0, 0) else none)
              else
                bif Nat.beq pc 181 then some (.return_, 0, 0, 0, 0) else none
def i_M_putAck : Nat → Option Ent := ab_tab 182 t_M_putAck
def h_M_putAck (pc : Nat) : Nat × List Bool := bif Nat.beq pc 9 then (1, [true, true, true, true, false]) else bif Nat.beq pc 18 then (1, [true, true, true, true, false]) else bif Nat.beq pc 37 then (1, [true, true, true, true, false]) else bif Nat.beq pc 48 then (1, [true, true, true, true, false]) else bif Nat.beq pc 78 then (1, [true, true, true, false, false]) else bif Nat.beq pc 120 then (1, [true, true, true, false, true]) else (0, [])
def s_M_putAck (pc : Nat) : List (Int32 × Nat) × Nat := ([], 0)
noncomputable def eV_M_putAck : Nat → List AV → Mm → Option Mm := ab_ev [(110, c_M_put), (111, c_M_putNumber)]
noncomputable def eI_M_putAck : Nat → List AV → Mm → Option (Int32 × Mm) := ab_ev [(113, c_M_isSeen)]
noncomputable def b_M_putAck_0 (f : Nat) (v0 : Nat) (v1 : Int32) (m : Mm) : Option Rs := ab_ex KT none s_M_putAck eV_M_putAck eI_M_putAck i_M_putAck h_M_putAck f 0 [some (.inr (.inr (28, some v0))), some (.inl v1), none, none, none] [] m
noncomputable def b_M_putAck_9 (f : Nat) (v0 : Nat) (v1 : Int32) (v2 : Int32) (v3 : Int32) (m : Mm) : Option Rs := ab_ex KT none s_M_putAck eV_M_putAck eI_M_putAck i_M_putAck h_M_putAck f 9 [some (.inr (.inr (28, some v0))), some (.inl v1), some (.inl v2), some (.inl v3), none] [] m
noncomputable def b_M_putAck_18 (f : Nat) (v0 : Nat) (v1 : Int32) (v2 : Int32) (v3 : Int32) (m : Mm) : Option Rs := ab_ex KT none s_M_putAck eV_M_putAck eI_M_putAck i_M_putAck h_M_putAck f 18 [some (.inr (.inr (28, some v0))), some (.inl v1), some (.inl v2), some (.inl v3), none] [] m
noncomputable def b_M_putAck_37 (f : Nat) (v0 : Nat) (v1 : Int32) (v2 : Int32) (v3 : Int32) (m : Mm) : Option Rs := ab_ex KT none s_M_putAck eV_M_putAck eI_M_putAck i_M_putAck h_M_putAck f 37 [some (.inr (.inr (28, some v0))), some (.inl v1), some (.inl v2), some (.inl v3), none] [] m
noncomputable def b_M_putAck_48 (f : Nat) (v0 : Nat) (v1 : Int32) (v2 : Int32) (v3 : Int32) (m : Mm) : Option Rs := ab_ex KT none s_M_putAck eV_M_putAck eI_M_putAck i_M_putAck h_M_putAck f 48 [some (.inr (.inr (28, some v0))), some (.inl v1), some (.inl v2), some (.inl v3), none] [] m
noncomputable def b_M_putAck_78 (f : Nat) (v0 : Nat) (v1 : Int32) (v2 : Int32) (m : Mm) : Option Rs := ab_ex KT none s_M_putAck eV_M_putAck eI_M_putAck i_M_putAck h_M_putAck f 78 [some (.inr (.inr (28, some v0))), some (.inl v1), some (.inl v2), none, none] [] m
noncomputable def b_M_putAck_120 (f : Nat) (v0 : Nat) (v1 : Int32) (v2 : Int32) (v4 : Int32) (m : Mm) : Option Rs := ab_ex KT none s_M_putAck eV_M_putAck eI_M_putAck i_M_putAck h_M_putAck f 120 [some (.inr (.inr (28, some v0))), some (.inl v1), some (.inl v2), none, some (.inl v4)] [] m
set_option maxRecDepth 100000 in
set_option maxHeartbeats 4000000 in
theorem b_M_putAck_0_eq (f : Nat) (v0 : Nat) (v1 : Int32) (m : Mm) : b_M_putAck_0 (f + 1) v0 v1 m =
    (ab_ix v1 2).bind fun i1 =>
    ab_let ((m.1 152 (v0 + 20) i1)) fun x2 =>
    b_M_putAck_9 f v0 v1 (0 : Int32) x2 m := rfl
set_option maxRecDepth 100000 in
set_option maxHeartbeats 4000000 in
theorem b_M_putAck_9_eq (f : Nat) (v0 : Nat) (v1 : Int32) (v2 : Int32) (v3 : Int32) (m : Mm) : b_M_putAck_9 (f + 1) v0 v1 v2 v3 m =
    if v3 < 0 then
      b_M_putAck_78 f v0 v1 v2 m
    else
      if (3 : Int32) ≤ v2 then
        b_M_putAck_78 f v0 v1 v2 m
      else
        b_M_putAck_18 f v0 v1 v2 v3 m := rfl
set_option maxRecDepth 100000 in
set_option maxHeartbeats 4000000 in
theorem b_M_putAck_18_eq (f : Nat) (v0 : Nat) (v1 : Int32) (v2 : Int32) (v3 : Int32) (m : Mm) : b_M_putAck_18 (f + 1) v0 v1 v2 v3 m =
    if v3 < 0 then
      b_M_putAck_37 f v0 v1 v2 v3 m
    else
      (r_M_isSeen v0 v1 v3 m).bind fun z1 =>
      if z1.1 = 0 then
        ab_let (v3 + (-1 : Int32)) fun x2 =>
        b_M_putAck_18 f v0 v1 v2 x2 z1.2
      else
        b_M_putAck_37 f v0 v1 v2 v3 z1.2 := rfl
set_option maxRecDepth 100000 in
set_option maxHeartbeats 4000000 in
theorem b_M_putAck_37_eq (f : Nat) (v0 : Nat) (v1 : Int32) (v2 : Int32) (v3 : Int32) (m : Mm) : b_M_putAck_37 (f + 1) v0 v1 v2 v3 m =
    if v3 < 0 then
      b_M_putAck_9 f v0 v1 v2 v3 m
    else
      (ab_ix v2 3).bind fun i1 =>
      ab_let (ab_uI m 170 (v0 + 38) i1 v3) fun m2 =>
      b_M_putAck_48 f v0 v1 v2 v3 m2 := rfl
set_option maxRecDepth 100000 in
set_option maxHeartbeats 4000000 in
theorem b_M_putAck_48_eq (f : Nat) (v0 : Nat) (v1 : Int32) (v2 : Int32) (v3 : Int32) (m : Mm) : b_M_putAck_48 (f + 1) v0 v1 v2 v3 m =
    (r_M_isSeen v0 v1 v3 m).bind fun z1 =>
    if z1.1 = 0 then
      (ab_ix v2 3).bind fun i2 =>
      ab_let (ab_uI z1.2 171 (v0 + 39) i2 (v3 + (1 : Int32))) fun m3 =>
      ab_let (v2 + (1 : Int32)) fun x4 =>
      b_M_putAck_9 f v0 v1 x4 v3 m3
    else
      ab_let (v3 + (-1 : Int32)) fun x5 =>
      b_M_putAck_48 f v0 v1 v2 x5 z1.2 := rfl
set_option maxRecDepth 100000 in
set_option maxHeartbeats 4000000 in
theorem b_M_putAck_78_eq (f : Nat) (v0 : Nat) (v1 : Int32) (v2 : Int32) (m : Mm) : b_M_putAck_78 (f + 1) v0 v1 v2 m =
    (r_M_put v0 (1 : Int32) m).bind fun m1 =>
    (ab_ix (0 : Int32) 3).bind fun i2 =>
    (r_M_putNumber v0 (m1.1 170 (v0 + 38) i2) m1).bind fun m3 =>
    (ab_ix (0 : Int32) 3).bind fun i4 =>
    (ab_ix (0 : Int32) 3).bind fun i5 =>
    (r_M_putNumber v0 ((m3.1 170 (v0 + 38) i4) - (m3.1 171 (v0 + 39) i5)) m3).bind fun m6 =>
    (r_M_putNumber v0 (v2 - (1 : Int32)) m6).bind fun m7 =>
    b_M_putAck_120 f v0 v1 v2 (1 : Int32) m7 := rfl
set_option maxRecDepth 100000 in
set_option maxHeartbeats 4000000 in
theorem b_M_putAck_120_eq (f : Nat) (v0 : Nat) (v1 : Int32) (v2 : Int32) (v4 : Int32) (m : Mm) : b_M_putAck_120 (f + 1) v0 v1 v2 v4 m =
    if v2 ≤ v4 then
      (ab_ix v1 2).bind fun i1 =>
      (ab_bo (0 : Int32)).bind fun y3 =>
      ab_let (ab_uI m 158 (v0 + 26) i1 y3) fun m2 =>
      some (.inl (none, m2))
    else
      (ab_ix (v4 - (1 : Int32)) 3).bind fun i4 =>
      (ab_ix v4 3).bind fun i5 =>
      (r_M_putNumber v0 (((m.1 171 (v0 + 39) i4) - (m.1 170 (v0 + 38) i5)) - (2 : Int32)) m).bind fun m6 =>
      (ab_ix v4 3).bind fun i7 =>
      (ab_ix v4 3).bind fun i8 =>
      (r_M_putNumber v0 ((m6.1 170 (v0 + 38) i7) - (m6.1 171 (v0 + 39) i8)) m6).bind fun m9 =>
      ab_let (v4 + (1 : Int32)) fun x10 =>
      b_M_putAck_120 f v0 v1 v2 x10 m9 := rfl
noncomputable def r_M_putAck : Nat → Int32 → Mm → Option Mm := ab_seal fun v0 v1 m => ab_rV (b_M_putAck_0 50000 v0 v1 m)
theorem r_M_putAck_eq (v0 : Nat) (v1 : Int32) (m : Mm) : r_M_putAck v0 v1 m = ab_rV (b_M_putAck_0 50000 v0 v1 m) := by
  unfold r_M_putAck
  rw [ab_seal_eq]
noncomputable def c_M_putAck : List AV → Mm → Option Mm := fun av m => match av with
  | [.inr (.inr (kv0, ov0)), .inl v1] => if kv0 = 28 then (ov0.bind fun v0 => r_M_putAck v0 v1 m) else none
  | _ => none
theorem c_M_putAck_inv {av : List AV} {m : Mm} {r : Mm} (h : c_M_putAck av m = some r) : ∃ (v0 : Nat) (v1 : Int32), av = [.inr (.inr (28, some v0)), .inl v1] ∧ r_M_putAck v0 v1 m = some r := by
  unfold c_M_putAck at h
  split at h
  · rename_i kv0 ov0 v1
    by_cases hkv0 : kv0 = 28
    case neg => rw [if_neg hkv0] at h; cases h
    rw [if_pos hkv0] at h
    subst hkv0
    obtain ⟨v0, hev0, h⟩ := Option.bind_eq_some_iff.mp h
    subst hev0
    exact ⟨v0, v1, rfl, h⟩
  · cases h
def cs_M_putAck : List Nat := [25, 51, 80, 90, 107, 114, 146, 165]
set_option maxRecDepth 100000 in
theorem E_M_putAck : ∀ (pc : Nat) (q : Ent), i_M_putAck pc = some q → ab_E KT CL ab_gW "StreamTransportModel" "putAck" none prog_12_method_19_code s_M_putAck 5 pc q.1 q.2.1 q.2.2.1 q.2.2.2.1 q.2.2.2.2 := fun pc q hq =>
  ab_Eb_ok lc_M lj_M fl_M (fpn_M "putAck") nw_M na_M nq_M (ab_tab_all (t := t_M_putAck) (chk := fun pc q => ab_Eb none prog_12_method_19_code s_M_putAck 5 LC_M LJ_M FL_M FPn_M NW_M NA_M NQ_M pc q.1 q.2.1 q.2.2.1 q.2.2.2.1 q.2.2.2.2) (by decide +kernel) hq)
set_option maxRecDepth 100000 in
theorem kp_M_putAck {av : List AV} {m : Mm} {r : Mm} (h : c_M_putAck av m = some r) : ab_kp m r := by
  obtain ⟨v0, v1, -, h⟩ := c_M_putAck_inv h
  rw [r_M_putAck_eq] at h
  have hV : ∀ a av m m', eV_M_putAck a av m = some m' → ab_kp m m' := ab_ev_all (P := fun _ m r => ab_kp m r) [(110, c_M_put), (111, c_M_putNumber)] (List.forall_mem_cons.mpr ⟨fun av m r h => kp_M_put h, List.forall_mem_cons.mpr ⟨fun av m r h => kp_M_putNumber h, fun q hq => by cases hq⟩⟩)
  have hI : ∀ a av m q, eI_M_putAck a av m = some q → ab_kp m q.2 := ab_ev_all (P := fun _ (m : Mm) (r : Int32 × Mm) => ab_kp m r.2) [(113, c_M_isSeen)] (List.forall_mem_cons.mpr ⟨fun av m r h => kp_M_isSeen h, fun q hq => by cases hq⟩)
  exact ab_kprel (ρ := .inl (none, r)) (ab_tab_isn (t := t_M_putAck) (by decide +kernel)) hV hI (ab_rV_inv h)
set_option maxRecDepth 100000 in
theorem cl_M_putAck (l : Launch) : ∀ (pc : Nat) (q : Ent), i_M_putAck pc = some q → ab_inv q.1 = true → ab_CR l KT CL none ab_gW "StreamTransportModel" prog_12_method_19_code 5 2 43 eV_M_putAck eI_M_putAck pc q := by
  intro pc q hq hi
  have hm : pc ∈ cs_M_putAck := ab_tab_cs (t := t_M_putAck) (by decide +kernel) hq hi
  simp only [cs_M_putAck, List.mem_cons, List.not_mem_nil, or_false] at hm
  rcases hm with rfl | rfl | rfl | rfl | rfl | rfl | rfl | rfl
  · cases (Option.some.inj hq : ((.invokevirtual 171, 113, 3, 1, 0) : Ent) = q)
    exact ab_crV (C := "StreamTransportModel") (by decide +kernel) cw_M_isSeen (ab_gW_in 1209 (by decide +kernel) rfl) is_M_isSeen sl_M_isSeen (by decide) (fun av m m' h => by cases h) (fun av m r h => cm_M_isSeen l h) KT_nd
  · cases (Option.some.inj hq : ((.invokevirtual 171, 113, 3, 1, 0) : Ent) = q)
    exact ab_crV (C := "StreamTransportModel") (by decide +kernel) cw_M_isSeen (ab_gW_in 1209 (by decide +kernel) rfl) is_M_isSeen sl_M_isSeen (by decide) (fun av m m' h => by cases h) (fun av m r h => cm_M_isSeen l h) KT_nd
  · cases (Option.some.inj hq : ((.invokevirtual 168, 110, 2, 0, 0) : Ent) = q)
    exact ab_crV (C := "StreamTransportModel") (by decide +kernel) cw_M_put (ab_gW_in 1194 (by decide +kernel) rfl) is_M_put sl_M_put (by decide) (fun av m m' h => cm_M_put l h) (fun av m r h => by cases h) KT_nd
  · cases (Option.some.inj hq : ((.invokevirtual 174, 111, 2, 0, 0) : Ent) = q)
    exact ab_crV (C := "StreamTransportModel") (by decide +kernel) cw_M_putNumber (ab_gW_in 1198 (by decide +kernel) rfl) is_M_putNumber sl_M_putNumber (by decide) (fun av m m' h => cm_M_putNumber l h) (fun av m r h => by cases h) KT_nd
  · cases (Option.some.inj hq : ((.invokevirtual 174, 111, 2, 0, 0) : Ent) = q)
    exact ab_crV (C := "StreamTransportModel") (by decide +kernel) cw_M_putNumber (ab_gW_in 1198 (by decide +kernel) rfl) is_M_putNumber sl_M_putNumber (by decide) (fun av m m' h => cm_M_putNumber l h) (fun av m r h => by cases h) KT_nd
  · cases (Option.some.inj hq : ((.invokevirtual 174, 111, 2, 0, 0) : Ent) = q)
    exact ab_crV (C := "StreamTransportModel") (by decide +kernel) cw_M_putNumber (ab_gW_in 1198 (by decide +kernel) rfl) is_M_putNumber sl_M_putNumber (by decide) (fun av m m' h => cm_M_putNumber l h) (fun av m r h => by cases h) KT_nd
  · cases (Option.some.inj hq : ((.invokevirtual 174, 111, 2, 0, 0) : Ent) = q)
    exact ab_crV (C := "StreamTransportModel") (by decide +kernel) cw_M_putNumber (ab_gW_in 1198 (by decide +kernel) rfl) is_M_putNumber sl_M_putNumber (by decide) (fun av m m' h => cm_M_putNumber l h) (fun av m r h => by cases h) KT_nd
  · cases (Option.some.inj hq : ((.invokevirtual 174, 111, 2, 0, 0) : Ent) = q)
    exact ab_crV (C := "StreamTransportModel") (by decide +kernel) cw_M_putNumber (ab_gW_in 1198 (by decide +kernel) rfl) is_M_putNumber sl_M_putNumber (by decide) (fun av m m' h => cm_M_putNumber l h) (fun av m r h => by cases h) KT_nd
theorem cw_M_putAck : ab_cw y_M_putAck prog_12_method_19_code 5 1 none := ⟨ab_gW_in 1208 (by decide +kernel) rfl, ab_gW_in 71 (by decide +kernel) rfl, by decide +kernel, by decide +kernel, by decide +kernel⟩
theorem is_M_putAck : Cond.instanceMethod y_M_putAck ∈ ab_gW := ab_gW_in 1207 (by decide +kernel) rfl
theorem sl_M_putAck : Cond.selects "StreamTransportModel" y_M_putAck y_M_putAck ∈ ab_gW := ab_gW_in 37 (by decide +kernel) rfl
set_option maxRecDepth 100000 in
theorem cm_M_putAck (l : Launch) {av : List AV} {m : Mm} {r : Mm} (h0 : c_M_putAck av m = some r) : ∃ (k q : Nat) (av' : List AV) (ci : Nat) (fs : List (Nat × Nat × Nat × Nat)) (z : vw_C), av = .inr (.inr (k, some q)) :: av' ∧ av'.length = 1 ∧ k ≠ 0 ∧ KT[k]? = some (.inl (ci, fs)) ∧ CL[ci]? = some z ∧ z.1 = "StreamTransportModel" ∧ ab_nos av' ∧ ab_Met l KT CL y_M_putAck (Cond.code y_M_putAck prog_12_method_19_code 5 none :: ab_gW) 2 43 none av m none r := by
  obtain ⟨v0, v1, hav, h⟩ := c_M_putAck_inv h0
  rw [r_M_putAck_eq] at h
  have hmo : ab_mo m r := ab_kp_mo (kp_M_putAck h0)
  subst hav
  exact ⟨_, _, _, _, _, _, rfl, rfl, by decide, rfl, rfl, rfl, (by intro v hv q e; subst e; simp at hv), ab_met (by decide +kernel) KT_0 KT_nd KT_k3 E_M_putAck (cl_M_putAck l) hmo (Nat.le_of_ble_eq_true rfl) (ab_rV_inv h) (fun v hv => by cases hv)⟩
/-! StreamTransportModel.mayBeNew(III)Z -/
def y_M_mayBeNew : MethodName := ⟨"StreamTransportModel", "mayBeNew", "(III)Z"⟩
def t_M_mayBeNew (pc : Nat) : Option Ent :=
  bif Nat.blt pc 40 then
    (bif Nat.blt pc 15 then
      (bif Nat.blt pc 7 then
        (bif Nat.blt pc 3 then
          (bif Nat.blt pc 1 then
            (bif Nat.beq pc 0 then some (.iload_n 3, 3, 0, 0, 0) else none)
          else
            bif Nat.blt pc 2 then
              (bif Nat.beq pc 1 then some (.iconst 1, 0, 0, 0, 1) else none)
            else
              bif Nat.beq pc 2 then some (.iadd, 0, 0, 0, 0) else none)
        else
          bif Nat.blt pc 5 then
            (bif Nat.beq pc 3 then some (.istore 4, 4, 0, 0, 0) else none)
          else
            bif Nat.blt pc 6 then
              (bif Nat.beq pc 5 then some (.iconst 4, 0, 0, 0, 4) else none)
            else
              bif Nat.beq pc 6 then some (.iload_n 1, 1, 0, 0, 0) else none)
      else
        bif Nat.blt pc 12 then
          (bif Nat.blt pc 8 then
            (bif Nat.beq pc 7 then some (.imul, 0, 0, 0, 0) else none)
          else
            bif Nat.blt pc 10 then
              (bif Nat.beq pc 8 then some (.istore 5, 5, 0, 0, 0) else none)
            else
              bif Nat.beq pc 10 then some (.iload 5, 5, 0, 0, 0) else none)
        else
          bif Nat.blt pc 13 then
            (bif Nat.beq pc 12 then some (.iconst 4, 0, 0, 0, 4) else none)
          else
            bif Nat.blt pc 14 then
              (bif Nat.beq pc 13 then some (.iload_n 1, 1, 0, 0, 0) else none)
            else
              bif Nat.beq pc 14 then some (.imul, 0, 0, 0, 0) else none)
    else
      bif Nat.blt pc 26 then
        (bif Nat.blt pc 20 then
          (bif Nat.blt pc 16 then
            (bif Nat.beq pc 15 then some (.iconst 4, 0, 0, 0, 4) else none)
          else
            bif Nat.blt pc 17 then
              (bif Nat.beq pc 16 then some (.iadd, 0, 0, 0, 0) else none)
            else
              bif Nat.beq pc 17 then some (.if_icmp .ge (32), 49, 0, 0, 0) else none)
        else
          bif Nat.blt pc 22 then
            (bif Nat.beq pc 20 then some (.iload 5, 5, 0, 0, 0) else none)
          else
            bif Nat.blt pc 23 then
              (bif Nat.beq pc 22 then some (.iload_n 2, 2, 0, 0, 0) else none)
            else
              bif Nat.beq pc 23 then some (.if_icmp .ne (8), 31, 0, 0, 0) else none)
      else
        bif Nat.blt pc 33 then
          (bif Nat.blt pc 28 then
            (bif Nat.beq pc 26 then some (.iload 4, 4, 0, 0, 0) else none)
          else
            bif Nat.blt pc 31 then
              (bif Nat.beq pc 28 then some (.goto 13, 41, 0, 0, 0) else none)
            else
              bif Nat.beq pc 31 then some (.iload 4, 4, 0, 0, 0) else none)
        else
          bif Nat.blt pc 37 then
            (bif Nat.blt pc 34 then
              (bif Nat.beq pc 33 then some (.aload_n 0, 0, 0, 0, 0) else none)
            else
              bif Nat.beq pc 34 then some (.getfield 19, 10, 7, 1, 0) else none)
          else
            bif Nat.blt pc 39 then
              (bif Nat.beq pc 37 then some (.iload 5, 5, 0, 0, 0) else none)
            else
              bif Nat.beq pc 39 then some (.iaload, 0, 0, 0, 0) else none)
  else
    bif Nat.blt pc 64 then
      (bif Nat.blt pc 51 then
        (bif Nat.blt pc 46 then
          (bif Nat.blt pc 41 then
            (bif Nat.beq pc 40 then some (.iadd, 0, 0, 0, 0) else none)
          else
            bif Nat.blt pc 43 then
              (bif Nat.beq pc 41 then some (.istore 4, 4, 0, 0, 0) else none)
            else
              bif Nat.beq pc 43 then some (.iinc 5 1, 5, 0, 0, 1) else none)
        else
          bif Nat.blt pc 49 then
            (bif Nat.beq pc 46 then some (.goto (-36), 10, 0, 0, 0) else none)
          else
            bif Nat.blt pc 50 then
              (bif Nat.beq pc 49 then some (.iload_n 3, 3, 0, 0, 0) else none)
            else
              bif Nat.beq pc 50 then some (.aload_n 0, 0, 0, 0, 0) else none)
      else
        bif Nat.blt pc 56 then
          (bif Nat.blt pc 54 then
            (bif Nat.beq pc 51 then some (.getfield 16, 10, 6, 1, 0) else none)
          else
            bif Nat.blt pc 55 then
              (bif Nat.beq pc 54 then some (.iload_n 2, 2, 0, 0, 0) else none)
            else
              bif Nat.beq pc 55 then some (.iaload, 0, 0, 0, 0) else none)
        else
          bif Nat.blt pc 60 then
            (bif Nat.blt pc 59 then
              (bif Nat.beq pc 56 then some (.if_icmp .ge (28), 84, 0, 0, 0) else none)
            else
              bif Nat.beq pc 59 then some (.iload_n 3, 3, 0, 0, 0) else none)
          else
            bif Nat.blt pc 61 then
              (bif Nat.beq pc 60 then some (.aload_n 0, 0, 0, 0, 0) else none)
            else
              bif Nat.beq pc 61 then some (.getfield 28, 10, 10, 1, 0) else none)
    else
      bif Nat.blt pc 75 then
        (bif Nat.blt pc 69 then
          (bif Nat.blt pc 65 then
            (bif Nat.beq pc 64 then some (.iload_n 2, 2, 0, 0, 0) else none)
          else
            bif Nat.blt pc 66 then
              (bif Nat.beq pc 65 then some (.iaload, 0, 0, 0, 0) else none)
            else
              bif Nat.beq pc 66 then some (.if_icmp .ge (18), 84, 0, 0, 0) else none)
        else
          bif Nat.blt pc 71 then
            (bif Nat.beq pc 69 then some (.iload 4, 4, 0, 0, 0) else none)
          else
            bif Nat.blt pc 72 then
              (bif Nat.beq pc 71 then some (.aload_n 0, 0, 0, 0, 0) else none)
            else
              bif Nat.beq pc 72 then some (.getfield 59, 10, 20, 1, 0) else none)
      else
        bif Nat.blt pc 80 then
          (bif Nat.blt pc 76 then
            (bif Nat.beq pc 75 then some (.iload_n 1, 1, 0, 0, 0) else none)
          else
            bif Nat.blt pc 77 then
              (bif Nat.beq pc 76 then some (.iaload, 0, 0, 0, 0) else none)
            else
              bif Nat.beq pc 77 then some (.if_icmp .gt (7), 84, 0, 0, 0) else none)
        else
          bif Nat.blt pc 84 then
            (bif Nat.blt pc 81 then
              (bif Nat.beq pc 80 then some (.iconst 1, 0, 0, 0, 1) else none)
            else
              bif Nat.beq pc 81 then some (.goto 4, 85, 0, 0, 0) else none)
          else
            bif Nat.blt pc 85 then
              (bif Nat.beq pc 84 then some (.iconst 0, 0, 0, 0, 0) else none)
            else
              bif Nat.beq pc 85 then some (.ireturn, 0, 0, 1, 0) else none
def i_M_mayBeNew : Nat → Option Ent := ab_tab 86 t_M_mayBeNew
def h_M_mayBeNew (pc : Nat) : Nat × List Bool := bif Nat.beq pc 10 then (1, [true, true, true, true, true, true]) else bif Nat.beq pc 41 then (1, [true, true, true, true, false, true]) else (0, [])
def s_M_mayBeNew (pc : Nat) : List (Int32 × Nat) × Nat := ([], 0)
noncomputable def eV_M_mayBeNew : Nat → List AV → Mm → Option Mm := ab_ev []
noncomputable def eI_M_mayBeNew : Nat → List AV → Mm → Option (Int32 × Mm) := ab_ev []
noncomputable def b_M_mayBeNew_0 (f : Nat) (v0 : Nat) (v1 : Int32) (v2 : Int32) (v3 : Int32) (m : Mm) : Option Rs := ab_ex KT none s_M_mayBeNew eV_M_mayBeNew eI_M_mayBeNew i_M_mayBeNew h_M_mayBeNew f 0 [some (.inr (.inr (28, some v0))), some (.inl v1), some (.inl v2), some (.inl v3), none, none] [] m
noncomputable def b_M_mayBeNew_10 (f : Nat) (v0 : Nat) (v1 : Int32) (v2 : Int32) (v3 : Int32) (v4 : Int32) (v5 : Int32) (m : Mm) : Option Rs := ab_ex KT none s_M_mayBeNew eV_M_mayBeNew eI_M_mayBeNew i_M_mayBeNew h_M_mayBeNew f 10 [some (.inr (.inr (28, some v0))), some (.inl v1), some (.inl v2), some (.inl v3), some (.inl v4), some (.inl v5)] [] m
noncomputable def b_M_mayBeNew_41 (f : Nat) (v0 : Nat) (v1 : Int32) (v2 : Int32) (v3 : Int32) (v5 : Int32) (u0 : Int32) (m : Mm) : Option Rs := ab_ex KT none s_M_mayBeNew eV_M_mayBeNew eI_M_mayBeNew i_M_mayBeNew h_M_mayBeNew f 41 [some (.inr (.inr (28, some v0))), some (.inl v1), some (.inl v2), some (.inl v3), none, some (.inl v5)] [.inl u0] m
set_option maxRecDepth 100000 in
set_option maxHeartbeats 4000000 in
theorem b_M_mayBeNew_0_eq (f : Nat) (v0 : Nat) (v1 : Int32) (v2 : Int32) (v3 : Int32) (m : Mm) : b_M_mayBeNew_0 (f + 1) v0 v1 v2 v3 m =
    ab_let ((v3 + (1 : Int32))) fun x1 =>
    ab_let (((4 : Int32) * v1)) fun x2 =>
    b_M_mayBeNew_10 f v0 v1 v2 v3 x1 x2 m := rfl
set_option maxRecDepth 100000 in
set_option maxHeartbeats 4000000 in
theorem b_M_mayBeNew_10_eq (f : Nat) (v0 : Nat) (v1 : Int32) (v2 : Int32) (v3 : Int32) (v4 : Int32) (v5 : Int32) (m : Mm) : b_M_mayBeNew_10 (f + 1) v0 v1 v2 v3 v4 v5 m =
    if (((4 : Int32) * v1) + (4 : Int32)) ≤ v5 then
      (ab_ix v2 8).bind fun i1 =>
      if (m.1 135 (v0 + 3) i1) ≤ v3 then
        (ab_bo (0 : Int32)).bind fun y2 => some (.inl (some (.inl y2), m))
      else
        (ab_ix v2 8).bind fun i3 =>
        if (m.1 139 (v0 + 7) i3) ≤ v3 then
          (ab_bo (0 : Int32)).bind fun y4 => some (.inl (some (.inl y4), m))
        else
          (ab_ix v1 2).bind fun i5 =>
          if (m.1 149 (v0 + 17) i5) < v4 then
            (ab_bo (0 : Int32)).bind fun y6 => some (.inl (some (.inl y6), m))
          else
            (ab_bo (1 : Int32)).bind fun y7 => some (.inl (some (.inl y7), m))
    else
      if v5 = v2 then
        b_M_mayBeNew_41 f v0 v1 v2 v3 v5 v4 m
      else
        (ab_ix v5 8).bind fun i8 =>
        b_M_mayBeNew_41 f v0 v1 v2 v3 v5 (v4 + (m.1 136 (v0 + 4) i8)) m := rfl
set_option maxRecDepth 100000 in
set_option maxHeartbeats 4000000 in
theorem b_M_mayBeNew_41_eq (f : Nat) (v0 : Nat) (v1 : Int32) (v2 : Int32) (v3 : Int32) (v5 : Int32) (u0 : Int32) (m : Mm) : b_M_mayBeNew_41 (f + 1) v0 v1 v2 v3 v5 u0 m =
    ab_let (v5 + (1 : Int32)) fun x1 =>
    b_M_mayBeNew_10 f v0 v1 v2 v3 u0 x1 m := rfl
noncomputable def r_M_mayBeNew : Nat → Int32 → Int32 → Int32 → Mm → Option (Int32 × Mm) := ab_seal fun v0 v1 v2 v3 m => ab_rI (b_M_mayBeNew_0 50000 v0 v1 v2 v3 m)
theorem r_M_mayBeNew_eq (v0 : Nat) (v1 : Int32) (v2 : Int32) (v3 : Int32) (m : Mm) : r_M_mayBeNew v0 v1 v2 v3 m = ab_rI (b_M_mayBeNew_0 50000 v0 v1 v2 v3 m) := by
  unfold r_M_mayBeNew
  rw [ab_seal_eq]
noncomputable def c_M_mayBeNew : List AV → Mm → Option (Int32 × Mm) := fun av m => match av with
  | [.inr (.inr (kv0, ov0)), .inl v1, .inl v2, .inl v3] => if kv0 = 28 then (ov0.bind fun v0 => r_M_mayBeNew v0 v1 v2 v3 m) else none
  | _ => none
theorem c_M_mayBeNew_inv {av : List AV} {m : Mm} {r : Int32 × Mm} (h : c_M_mayBeNew av m = some r) : ∃ (v0 : Nat) (v1 : Int32) (v2 : Int32) (v3 : Int32), av = [.inr (.inr (28, some v0)), .inl v1, .inl v2, .inl v3] ∧ r_M_mayBeNew v0 v1 v2 v3 m = some r := by
  unfold c_M_mayBeNew at h
  split at h
  · rename_i kv0 ov0 v1 v2 v3
    by_cases hkv0 : kv0 = 28
    case neg => rw [if_neg hkv0] at h; cases h
    rw [if_pos hkv0] at h
    subst hkv0
    obtain ⟨v0, hev0, h⟩ := Option.bind_eq_some_iff.mp h
    subst hev0
    exact ⟨v0, v1, v2, v3, rfl, h⟩
  · cases h
def cs_M_mayBeNew : List Nat := []
set_option maxRecDepth 100000 in
theorem E_M_mayBeNew : ∀ (pc : Nat) (q : Ent), i_M_mayBeNew pc = some q → ab_E KT CL ab_gW "StreamTransportModel" "mayBeNew" (some .boolean) prog_12_method_20_code s_M_mayBeNew 6 pc q.1 q.2.1 q.2.2.1 q.2.2.2.1 q.2.2.2.2 := fun pc q hq =>
  ab_Eb_ok lc_M lj_M fl_M (fpn_M "mayBeNew") nw_M na_M nq_M (ab_tab_all (t := t_M_mayBeNew) (chk := fun pc q => ab_Eb (some .boolean) prog_12_method_20_code s_M_mayBeNew 6 LC_M LJ_M FL_M FPn_M NW_M NA_M NQ_M pc q.1 q.2.1 q.2.2.1 q.2.2.2.1 q.2.2.2.2) (by decide +kernel) hq)
set_option maxRecDepth 100000 in
theorem kp_M_mayBeNew {av : List AV} {m : Mm} {r : Int32 × Mm} (h : c_M_mayBeNew av m = some r) : ab_kp m r.2 := by
  obtain ⟨v0, v1, v2, v3, -, h⟩ := c_M_mayBeNew_inv h
  rw [r_M_mayBeNew_eq] at h
  have hV : ∀ a av m m', eV_M_mayBeNew a av m = some m' → ab_kp m m' := ab_ev_all (P := fun _ m r => ab_kp m r) [] (fun q hq => by cases hq)
  have hI : ∀ a av m q, eI_M_mayBeNew a av m = some q → ab_kp m q.2 := ab_ev_all (P := fun _ (m : Mm) (r : Int32 × Mm) => ab_kp m r.2) [] (fun q hq => by cases hq)
  exact ab_kprel (ρ := .inl (some (.inl r.1), r.2)) (ab_tab_isn (t := t_M_mayBeNew) (by decide +kernel)) hV hI (ab_rI_inv h)
set_option maxRecDepth 100000 in
theorem cl_M_mayBeNew (l : Launch) : ∀ (pc : Nat) (q : Ent), i_M_mayBeNew pc = some q → ab_inv q.1 = true → ab_CR l KT CL none ab_gW "StreamTransportModel" prog_12_method_20_code 6 0 0 eV_M_mayBeNew eI_M_mayBeNew pc q := by
  intro pc q hq hi
  have hm : pc ∈ cs_M_mayBeNew := ab_tab_cs (t := t_M_mayBeNew) (by decide +kernel) hq hi
  cases hm
theorem cw_M_mayBeNew : ab_cw y_M_mayBeNew prog_12_method_20_code 6 3 (some .boolean) := ⟨ab_gW_in 1228 (by decide +kernel) rfl, ab_gW_in 71 (by decide +kernel) rfl, by decide +kernel, by decide +kernel, by decide +kernel⟩
theorem is_M_mayBeNew : Cond.instanceMethod y_M_mayBeNew ∈ ab_gW := ab_gW_in 1227 (by decide +kernel) rfl
theorem sl_M_mayBeNew : Cond.selects "StreamTransportModel" y_M_mayBeNew y_M_mayBeNew ∈ ab_gW := ab_gW_in 42 (by decide +kernel) rfl
set_option maxRecDepth 100000 in
theorem cm_M_mayBeNew (l : Launch) {av : List AV} {m : Mm} {r : Int32 × Mm} (h0 : c_M_mayBeNew av m = some r) : ∃ (k q : Nat) (av' : List AV) (ci : Nat) (fs : List (Nat × Nat × Nat × Nat)) (z : vw_C), av = .inr (.inr (k, some q)) :: av' ∧ av'.length = 3 ∧ k ≠ 0 ∧ KT[k]? = some (.inl (ci, fs)) ∧ CL[ci]? = some z ∧ z.1 = "StreamTransportModel" ∧ ab_nos av' ∧ ab_Met l KT CL y_M_mayBeNew (Cond.code y_M_mayBeNew prog_12_method_20_code 6 (some .boolean) :: ab_gW) 0 0 none av m (some (.inl r.1)) r.2 := by
  obtain ⟨v0, v1, v2, v3, hav, h⟩ := c_M_mayBeNew_inv h0
  rw [r_M_mayBeNew_eq] at h
  have hmo : ab_mo m r.2 := ab_kp_mo (kp_M_mayBeNew h0)
  subst hav
  exact ⟨_, _, _, _, _, _, rfl, rfl, by decide, rfl, rfl, rfl, (by intro v hv q e; subst e; simp at hv), ab_met (by decide +kernel) KT_0 KT_nd KT_k3 E_M_mayBeNew (cl_M_mayBeNew l) hmo (Nat.le_of_ble_eq_true rfl) (ab_rI_inv h) (fun v hv => by cases hv; exact ⟨_, rfl⟩)⟩
/-! StreamTransportModel.plans(II)Z -/
def y_M_plans : MethodName := ⟨"StreamTransportModel", "plans", "(II)Z"⟩
def t_M_plans (pc : Nat) : Option Ent :=
  bif Nat.blt pc 162 then
    (bif Nat.blt pc 80 then
      (bif Nat.blt pc 36 then
        (bif Nat.blt pc 17 then
          (bif Nat.blt pc 9 then
            (bif Nat.blt pc 4 then
              (bif Nat.blt pc 1 then
                (bif Nat.beq pc 0 then some (.aload_n 0, 0, 0, 0, 0) else none)
              else
                bif Nat.beq pc 1 then some (.getfield 35, 10, 12, 1, 0) else none)
            else
              bif Nat.blt pc 5 then
                (bif Nat.beq pc 4 then some (.iload_n 2, 2, 0, 0, 0) else none)
              else
                bif Nat.blt pc 6 then
                  (bif Nat.beq pc 5 then some (.baload, 0, 0, 0, 0) else none)
                else
                  bif Nat.beq pc 6 then some (.ifCond .eq (5), 11, 0, 0, 0) else none)
          else
            bif Nat.blt pc 12 then
              (bif Nat.blt pc 10 then
                (bif Nat.beq pc 9 then some (.iconst 0, 0, 0, 0, 0) else none)
              else
                bif Nat.blt pc 11 then
                  (bif Nat.beq pc 10 then some (.ireturn, 0, 0, 1, 0) else none)
                else
                  bif Nat.beq pc 11 then some (.iconst (-1), 0, 0, 0, -1) else none)
            else
              bif Nat.blt pc 13 then
                (bif Nat.beq pc 12 then some (.istore_n 3, 3, 0, 0, 0) else none)
              else
                bif Nat.blt pc 14 then
                  (bif Nat.beq pc 13 then some (.aload_n 0, 0, 0, 0, 0) else none)
                else
                  bif Nat.beq pc 14 then some (.getfield 16, 10, 6, 1, 0) else none)
        else
          bif Nat.blt pc 25 then
            (bif Nat.blt pc 20 then
              (bif Nat.blt pc 18 then
                (bif Nat.beq pc 17 then some (.iload_n 2, 2, 0, 0, 0) else none)
              else
                bif Nat.blt pc 19 then
                  (bif Nat.beq pc 18 then some (.iaload, 0, 0, 0, 0) else none)
                else
                  bif Nat.beq pc 19 then some (.iconst 1, 0, 0, 0, 1) else none)
            else
              bif Nat.blt pc 21 then
                (bif Nat.beq pc 20 then some (.isub, 0, 0, 0, 0) else none)
              else
                bif Nat.blt pc 23 then
                  (bif Nat.beq pc 21 then some (.istore 4, 4, 0, 0, 0) else none)
                else
                  bif Nat.beq pc 23 then some (.iload 4, 4, 0, 0, 0) else none)
          else
            bif Nat.blt pc 32 then
              (bif Nat.blt pc 28 then
                (bif Nat.beq pc 25 then some (.ifCond .lt (32), 57, 0, 0, 0) else none)
              else
                bif Nat.blt pc 29 then
                  (bif Nat.beq pc 28 then some (.aload_n 0, 0, 0, 0, 0) else none)
                else
                  bif Nat.beq pc 29 then some (.getfield 13, 10, 5, 1, 0) else none)
            else
              bif Nat.blt pc 34 then
                (bif Nat.beq pc 32 then some (.bipush 64, 0, 0, 0, 64) else none)
              else
                bif Nat.blt pc 35 then
                  (bif Nat.beq pc 34 then some (.iload_n 2, 2, 0, 0, 0) else none)
                else
                  bif Nat.beq pc 35 then some (.imul, 0, 0, 0, 0) else none)
      else
        bif Nat.blt pc 58 then
          (bif Nat.blt pc 46 then
            (bif Nat.blt pc 40 then
              (bif Nat.blt pc 38 then
                (bif Nat.beq pc 36 then some (.iload 4, 4, 0, 0, 0) else none)
              else
                bif Nat.blt pc 39 then
                  (bif Nat.beq pc 38 then some (.iadd, 0, 0, 0, 0) else none)
                else
                  bif Nat.beq pc 39 then some (.iaload, 0, 0, 0, 0) else none)
            else
              bif Nat.blt pc 41 then
                (bif Nat.beq pc 40 then some (.iconst 2, 0, 0, 0, 2) else none)
              else
                bif Nat.blt pc 44 then
                  (bif Nat.beq pc 41 then some (.if_icmp .ne (8), 49, 0, 0, 0) else none)
                else
                  bif Nat.beq pc 44 then some (.iload 4, 4, 0, 0, 0) else none)
          else
            bif Nat.blt pc 51 then
              (bif Nat.blt pc 49 then
                (bif Nat.beq pc 46 then some (.goto 4, 50, 0, 0, 0) else none)
              else
                bif Nat.blt pc 50 then
                  (bif Nat.beq pc 49 then some (.iload_n 3, 3, 0, 0, 0) else none)
                else
                  bif Nat.beq pc 50 then some (.istore_n 3, 3, 0, 0, 0) else none)
            else
              bif Nat.blt pc 54 then
                (bif Nat.beq pc 51 then some (.iinc 4 (-1), 4, 0, 0, -1) else none)
              else
                bif Nat.blt pc 57 then
                  (bif Nat.beq pc 54 then some (.goto (-31), 23, 0, 0, 0) else none)
                else
                  bif Nat.beq pc 57 then some (.iload_n 3, 3, 0, 0, 0) else none)
        else
          bif Nat.blt pc 70 then
            (bif Nat.blt pc 65 then
              (bif Nat.blt pc 61 then
                (bif Nat.beq pc 58 then some (.ifCond .lt (7), 65, 0, 0, 0) else none)
              else
                bif Nat.blt pc 62 then
                  (bif Nat.beq pc 61 then some (.iconst 1, 0, 0, 0, 1) else none)
                else
                  bif Nat.beq pc 62 then some (.goto 4, 66, 0, 0, 0) else none)
            else
              bif Nat.blt pc 66 then
                (bif Nat.beq pc 65 then some (.iconst 0, 0, 0, 0, 0) else none)
              else
                bif Nat.blt pc 68 then
                  (bif Nat.beq pc 66 then some (.istore 4, 4, 0, 0, 0) else none)
                else
                  bif Nat.beq pc 68 then some (.iload 4, 4, 0, 0, 0) else none)
          else
            bif Nat.blt pc 75 then
              (bif Nat.blt pc 73 then
                (bif Nat.beq pc 70 then some (.ifCond .ne (25), 95, 0, 0, 0) else none)
              else
                bif Nat.blt pc 74 then
                  (bif Nat.beq pc 73 then some (.aload_n 0, 0, 0, 0, 0) else none)
                else
                  bif Nat.beq pc 74 then some (.iload_n 1, 1, 0, 0, 0) else none)
            else
              bif Nat.blt pc 76 then
                (bif Nat.beq pc 75 then some (.iload_n 2, 2, 0, 0, 0) else none)
              else
                bif Nat.blt pc 77 then
                  (bif Nat.beq pc 76 then some (.aload_n 0, 0, 0, 0, 0) else none)
                else
                  bif Nat.beq pc 77 then some (.getfield 19, 10, 7, 1, 0) else none)
    else
      bif Nat.blt pc 120 then
        (bif Nat.blt pc 100 then
          (bif Nat.blt pc 92 then
            (bif Nat.blt pc 85 then
              (bif Nat.blt pc 81 then
                (bif Nat.beq pc 80 then some (.iload_n 2, 2, 0, 0, 0) else none)
              else
                bif Nat.blt pc 82 then
                  (bif Nat.beq pc 81 then some (.iaload, 0, 0, 0, 0) else none)
                else
                  bif Nat.beq pc 82 then some (.invokevirtual 177, 120, 4, 1, 0) else none)
            else
              bif Nat.blt pc 88 then
                (bif Nat.beq pc 85 then some (.ifCond .eq (10), 95, 0, 0, 0) else none)
              else
                bif Nat.blt pc 89 then
                  (bif Nat.beq pc 88 then some (.aload_n 0, 0, 0, 0, 0) else none)
                else
                  bif Nat.beq pc 89 then some (.getfield 19, 10, 7, 1, 0) else none)
          else
            bif Nat.blt pc 95 then
              (bif Nat.blt pc 93 then
                (bif Nat.beq pc 92 then some (.iload_n 2, 2, 0, 0, 0) else none)
              else
                bif Nat.blt pc 94 then
                  (bif Nat.beq pc 93 then some (.iaload, 0, 0, 0, 0) else none)
                else
                  bif Nat.beq pc 94 then some (.istore_n 3, 3, 0, 0, 0) else none)
            else
              bif Nat.blt pc 96 then
                (bif Nat.beq pc 95 then some (.iload_n 3, 3, 0, 0, 0) else none)
              else
                bif Nat.blt pc 99 then
                  (bif Nat.beq pc 96 then some (.ifCond .ge (90), 186, 0, 0, 0) else none)
                else
                  bif Nat.beq pc 99 then some (.aload_n 0, 0, 0, 0, 0) else none)
        else
          bif Nat.blt pc 110 then
            (bif Nat.blt pc 105 then
              (bif Nat.blt pc 101 then
                (bif Nat.beq pc 100 then some (.aload_n 0, 0, 0, 0, 0) else none)
              else
                bif Nat.blt pc 104 then
                  (bif Nat.beq pc 101 then some (.getfield 16, 10, 6, 1, 0) else none)
                else
                  bif Nat.beq pc 104 then some (.iload_n 2, 2, 0, 0, 0) else none)
            else
              bif Nat.blt pc 106 then
                (bif Nat.beq pc 105 then some (.iaload, 0, 0, 0, 0) else none)
              else
                bif Nat.blt pc 109 then
                  (bif Nat.beq pc 106 then some (.putfield 180, 10, 49, 0, 0) else none)
                else
                  bif Nat.beq pc 109 then some (.aload_n 0, 0, 0, 0, 0) else none)
          else
            bif Nat.blt pc 115 then
              (bif Nat.blt pc 111 then
                (bif Nat.beq pc 110 then some (.iconst 0, 0, 0, 0, 0) else none)
              else
                bif Nat.blt pc 114 then
                  (bif Nat.beq pc 111 then some (.putfield 183, 10, 50, 0, 0) else none)
                else
                  bif Nat.beq pc 114 then some (.aload_n 0, 0, 0, 0, 0) else none)
            else
              bif Nat.blt pc 116 then
                (bif Nat.beq pc 115 then some (.iconst 1, 0, 0, 0, 1) else none)
              else
                bif Nat.blt pc 119 then
                  (bif Nat.beq pc 116 then some (.putfield 186, 10, 51, 0, 0) else none)
                else
                  bif Nat.beq pc 119 then some (.aload_n 0, 0, 0, 0, 0) else none)
      else
        bif Nat.blt pc 140 then
          (bif Nat.blt pc 132 then
            (bif Nat.blt pc 125 then
              (bif Nat.blt pc 123 then
                (bif Nat.beq pc 120 then some (.getfield 31, 10, 11, 1, 0) else none)
              else
                bif Nat.blt pc 124 then
                  (bif Nat.beq pc 123 then some (.iload_n 2, 2, 0, 0, 0) else none)
                else
                  bif Nat.beq pc 124 then some (.baload, 0, 0, 0, 0) else none)
            else
              bif Nat.blt pc 128 then
                (bif Nat.beq pc 125 then some (.ifCond .eq (59), 184, 0, 0, 0) else none)
              else
                bif Nat.blt pc 129 then
                  (bif Nat.beq pc 128 then some (.aload_n 0, 0, 0, 0, 0) else none)
                else
                  bif Nat.beq pc 129 then some (.getfield 19, 10, 7, 1, 0) else none)
          else
            bif Nat.blt pc 135 then
              (bif Nat.blt pc 133 then
                (bif Nat.beq pc 132 then some (.iload_n 2, 2, 0, 0, 0) else none)
              else
                bif Nat.blt pc 134 then
                  (bif Nat.beq pc 133 then some (.iaload, 0, 0, 0, 0) else none)
                else
                  bif Nat.beq pc 134 then some (.aload_n 0, 0, 0, 0, 0) else none)
            else
              bif Nat.blt pc 138 then
                (bif Nat.beq pc 135 then some (.getfield 16, 10, 6, 1, 0) else none)
              else
                bif Nat.blt pc 139 then
                  (bif Nat.beq pc 138 then some (.iload_n 2, 2, 0, 0, 0) else none)
                else
                  bif Nat.beq pc 139 then some (.iaload, 0, 0, 0, 0) else none)
        else
          bif Nat.blt pc 152 then
            (bif Nat.blt pc 147 then
              (bif Nat.blt pc 143 then
                (bif Nat.beq pc 140 then some (.if_icmp .ne (44), 184, 0, 0, 0) else none)
              else
                bif Nat.blt pc 144 then
                  (bif Nat.beq pc 143 then some (.aload_n 0, 0, 0, 0, 0) else none)
                else
                  bif Nat.beq pc 144 then some (.getfield 22, 10, 8, 1, 0) else none)
            else
              bif Nat.blt pc 148 then
                (bif Nat.beq pc 147 then some (.iload_n 2, 2, 0, 0, 0) else none)
              else
                bif Nat.blt pc 149 then
                  (bif Nat.beq pc 148 then some (.iaload, 0, 0, 0, 0) else none)
                else
                  bif Nat.beq pc 149 then some (.ifCond .eq (13), 162, 0, 0, 0) else none)
          else
            bif Nat.blt pc 157 then
              (bif Nat.blt pc 153 then
                (bif Nat.beq pc 152 then some (.aload_n 0, 0, 0, 0, 0) else none)
              else
                bif Nat.blt pc 156 then
                  (bif Nat.beq pc 153 then some (.getfield 22, 10, 8, 1, 0) else none)
                else
                  bif Nat.beq pc 156 then some (.iload_n 2, 2, 0, 0, 0) else none)
            else
              bif Nat.blt pc 158 then
                (bif Nat.beq pc 157 then some (.iaload, 0, 0, 0, 0) else none)
              else
                bif Nat.blt pc 159 then
                  (bif Nat.beq pc 158 then some (.iconst 2, 0, 0, 0, 2) else none)
                else
                  bif Nat.beq pc 159 then some (.if_icmp .ne (25), 184, 0, 0, 0) else none)
  else
    bif Nat.blt pc 245 then
      (bif Nat.blt pc 200 then
        (bif Nat.blt pc 181 then
          (bif Nat.blt pc 169 then
            (bif Nat.blt pc 164 then
              (bif Nat.blt pc 163 then
                (bif Nat.beq pc 162 then some (.aload_n 0, 0, 0, 0, 0) else none)
              else
                bif Nat.beq pc 163 then some (.iconst 3, 0, 0, 0, 3) else none)
            else
              bif Nat.blt pc 165 then
                (bif Nat.beq pc 164 then some (.aload_n 0, 0, 0, 0, 0) else none)
              else
                bif Nat.blt pc 168 then
                  (bif Nat.beq pc 165 then some (.getfield 16, 10, 6, 1, 0) else none)
                else
                  bif Nat.beq pc 168 then some (.iload_n 2, 2, 0, 0, 0) else none)
          else
            bif Nat.blt pc 174 then
              (bif Nat.blt pc 170 then
                (bif Nat.beq pc 169 then some (.iaload, 0, 0, 0, 0) else none)
              else
                bif Nat.blt pc 173 then
                  (bif Nat.beq pc 170 then some (.invokestatic 165, 109, 1, 1, 0) else none)
                else
                  bif Nat.beq pc 173 then some (.iadd, 0, 0, 0, 0) else none)
            else
              bif Nat.blt pc 177 then
                (bif Nat.beq pc 174 then some (.invokevirtual 190, 112, 2, 1, 0) else none)
              else
                bif Nat.blt pc 180 then
                  (bif Nat.beq pc 177 then some (.ifCond .eq (7), 184, 0, 0, 0) else none)
                else
                  bif Nat.beq pc 180 then some (.iconst 1, 0, 0, 0, 1) else none)
        else
          bif Nat.blt pc 192 then
            (bif Nat.blt pc 186 then
              (bif Nat.blt pc 184 then
                (bif Nat.beq pc 181 then some (.goto 4, 185, 0, 0, 0) else none)
              else
                bif Nat.blt pc 185 then
                  (bif Nat.beq pc 184 then some (.iconst 0, 0, 0, 0, 0) else none)
                else
                  bif Nat.beq pc 185 then some (.ireturn, 0, 0, 1, 0) else none)
            else
              bif Nat.blt pc 188 then
                (bif Nat.beq pc 186 then some (.bipush 37, 0, 0, 0, 37) else none)
              else
                bif Nat.blt pc 189 then
                  (bif Nat.beq pc 188 then some (.aload_n 0, 0, 0, 0, 0) else none)
                else
                  bif Nat.beq pc 189 then some (.getfield 162, 10, 44, 0, 0) else none)
          else
            bif Nat.blt pc 195 then
              (bif Nat.blt pc 193 then
                (bif Nat.beq pc 192 then some (.isub, 0, 0, 0, 0) else none)
              else
                bif Nat.blt pc 194 then
                  (bif Nat.beq pc 193 then some (.iconst 3, 0, 0, 0, 3) else none)
                else
                  bif Nat.beq pc 194 then some (.isub, 0, 0, 0, 0) else none)
            else
              bif Nat.blt pc 196 then
                (bif Nat.beq pc 195 then some (.iload_n 3, 3, 0, 0, 0) else none)
              else
                bif Nat.blt pc 199 then
                  (bif Nat.beq pc 196 then some (.invokestatic 165, 109, 1, 1, 0) else none)
                else
                  bif Nat.beq pc 199 then some (.isub, 0, 0, 0, 0) else none)
      else
        bif Nat.blt pc 223 then
          (bif Nat.blt pc 212 then
            (bif Nat.blt pc 205 then
              (bif Nat.blt pc 202 then
                (bif Nat.beq pc 200 then some (.istore 5, 5, 0, 0, 0) else none)
              else
                bif Nat.blt pc 203 then
                  (bif Nat.beq pc 202 then some (.iconst 0, 0, 0, 0, 0) else none)
                else
                  bif Nat.beq pc 203 then some (.istore 6, 6, 0, 0, 0) else none)
            else
              bif Nat.blt pc 207 then
                (bif Nat.beq pc 205 then some (.iload 6, 6, 0, 0, 0) else none)
              else
                bif Nat.blt pc 209 then
                  (bif Nat.beq pc 207 then some (.bipush 12, 0, 0, 0, 12) else none)
                else
                  bif Nat.beq pc 209 then some (.if_icmp .ge (68), 277, 0, 0, 0) else none)
          else
            bif Nat.blt pc 219 then
              (bif Nat.blt pc 214 then
                (bif Nat.beq pc 212 then some (.iload 6, 6, 0, 0, 0) else none)
              else
                bif Nat.blt pc 216 then
                  (bif Nat.beq pc 214 then some (.iload 5, 5, 0, 0, 0) else none)
                else
                  bif Nat.beq pc 216 then some (.if_icmp .ge (61), 277, 0, 0, 0) else none)
            else
              bif Nat.blt pc 220 then
                (bif Nat.beq pc 219 then some (.iload_n 3, 3, 0, 0, 0) else none)
              else
                bif Nat.blt pc 222 then
                  (bif Nat.beq pc 220 then some (.iload 6, 6, 0, 0, 0) else none)
                else
                  bif Nat.beq pc 222 then some (.iadd, 0, 0, 0, 0) else none)
        else
          bif Nat.blt pc 234 then
            (bif Nat.blt pc 228 then
              (bif Nat.blt pc 224 then
                (bif Nat.beq pc 223 then some (.aload_n 0, 0, 0, 0, 0) else none)
              else
                bif Nat.blt pc 227 then
                  (bif Nat.beq pc 224 then some (.getfield 16, 10, 6, 1, 0) else none)
                else
                  bif Nat.beq pc 227 then some (.iload_n 2, 2, 0, 0, 0) else none)
            else
              bif Nat.blt pc 229 then
                (bif Nat.beq pc 228 then some (.iaload, 0, 0, 0, 0) else none)
              else
                bif Nat.blt pc 232 then
                  (bif Nat.beq pc 229 then some (.if_icmp .ge (48), 277, 0, 0, 0) else none)
                else
                  bif Nat.beq pc 232 then some (.iload 4, 4, 0, 0, 0) else none)
          else
            bif Nat.blt pc 241 then
              (bif Nat.blt pc 237 then
                (bif Nat.beq pc 234 then some (.ifCond .eq (24), 258, 0, 0, 0) else none)
              else
                bif Nat.blt pc 238 then
                  (bif Nat.beq pc 237 then some (.aload_n 0, 0, 0, 0, 0) else none)
                else
                  bif Nat.beq pc 238 then some (.getfield 13, 10, 5, 1, 0) else none)
            else
              bif Nat.blt pc 243 then
                (bif Nat.beq pc 241 then some (.bipush 64, 0, 0, 0, 64) else none)
              else
                bif Nat.blt pc 244 then
                  (bif Nat.beq pc 243 then some (.iload_n 2, 2, 0, 0, 0) else none)
                else
                  bif Nat.beq pc 244 then some (.imul, 0, 0, 0, 0) else none)
    else
      bif Nat.blt pc 288 then
        (bif Nat.blt pc 262 then
          (bif Nat.blt pc 252 then
            (bif Nat.blt pc 249 then
              (bif Nat.blt pc 246 then
                (bif Nat.beq pc 245 then some (.iload_n 3, 3, 0, 0, 0) else none)
              else
                bif Nat.blt pc 247 then
                  (bif Nat.beq pc 246 then some (.iadd, 0, 0, 0, 0) else none)
                else
                  bif Nat.beq pc 247 then some (.iload 6, 6, 0, 0, 0) else none)
            else
              bif Nat.blt pc 250 then
                (bif Nat.beq pc 249 then some (.iadd, 0, 0, 0, 0) else none)
              else
                bif Nat.blt pc 251 then
                  (bif Nat.beq pc 250 then some (.iaload, 0, 0, 0, 0) else none)
                else
                  bif Nat.beq pc 251 then some (.iconst 2, 0, 0, 0, 2) else none)
          else
            bif Nat.blt pc 259 then
              (bif Nat.blt pc 255 then
                (bif Nat.beq pc 252 then some (.if_icmp .ne (25), 277, 0, 0, 0) else none)
              else
                bif Nat.blt pc 258 then
                  (bif Nat.beq pc 255 then some (.goto 16, 271, 0, 0, 0) else none)
                else
                  bif Nat.beq pc 258 then some (.aload_n 0, 0, 0, 0, 0) else none)
            else
              bif Nat.blt pc 260 then
                (bif Nat.beq pc 259 then some (.iload_n 1, 1, 0, 0, 0) else none)
              else
                bif Nat.blt pc 261 then
                  (bif Nat.beq pc 260 then some (.iload_n 2, 2, 0, 0, 0) else none)
                else
                  bif Nat.beq pc 261 then some (.iload_n 3, 3, 0, 0, 0) else none)
        else
          bif Nat.blt pc 277 then
            (bif Nat.blt pc 268 then
              (bif Nat.blt pc 264 then
                (bif Nat.beq pc 262 then some (.iload 6, 6, 0, 0, 0) else none)
              else
                bif Nat.blt pc 265 then
                  (bif Nat.beq pc 264 then some (.iadd, 0, 0, 0, 0) else none)
                else
                  bif Nat.beq pc 265 then some (.invokevirtual 177, 120, 4, 1, 0) else none)
            else
              bif Nat.blt pc 271 then
                (bif Nat.beq pc 268 then some (.ifCond .eq (9), 277, 0, 0, 0) else none)
              else
                bif Nat.blt pc 274 then
                  (bif Nat.beq pc 271 then some (.iinc 6 1, 6, 0, 0, 1) else none)
                else
                  bif Nat.beq pc 274 then some (.goto (-69), 205, 0, 0, 0) else none)
          else
            bif Nat.blt pc 282 then
              (bif Nat.blt pc 278 then
                (bif Nat.beq pc 277 then some (.aload_n 0, 0, 0, 0, 0) else none)
              else
                bif Nat.blt pc 279 then
                  (bif Nat.beq pc 278 then some (.iload_n 3, 3, 0, 0, 0) else none)
                else
                  bif Nat.beq pc 279 then some (.putfield 180, 10, 49, 0, 0) else none)
            else
              bif Nat.blt pc 283 then
                (bif Nat.beq pc 282 then some (.aload_n 0, 0, 0, 0, 0) else none)
              else
                bif Nat.blt pc 285 then
                  (bif Nat.beq pc 283 then some (.iload 6, 6, 0, 0, 0) else none)
                else
                  bif Nat.beq pc 285 then some (.putfield 183, 10, 50, 0, 0) else none)
      else
        bif Nat.blt pc 307 then
          (bif Nat.blt pc 298 then
            (bif Nat.blt pc 293 then
              (bif Nat.blt pc 289 then
                (bif Nat.beq pc 288 then some (.aload_n 0, 0, 0, 0, 0) else none)
              else
                bif Nat.blt pc 290 then
                  (bif Nat.beq pc 289 then some (.aload_n 0, 0, 0, 0, 0) else none)
                else
                  bif Nat.beq pc 290 then some (.getfield 31, 10, 11, 1, 0) else none)
            else
              bif Nat.blt pc 294 then
                (bif Nat.beq pc 293 then some (.iload_n 2, 2, 0, 0, 0) else none)
              else
                bif Nat.blt pc 295 then
                  (bif Nat.beq pc 294 then some (.baload, 0, 0, 0, 0) else none)
                else
                  bif Nat.beq pc 295 then some (.ifCond .eq (20), 315, 0, 0, 0) else none)
          else
            bif Nat.blt pc 302 then
              (bif Nat.blt pc 299 then
                (bif Nat.beq pc 298 then some (.iload_n 3, 3, 0, 0, 0) else none)
              else
                bif Nat.blt pc 301 then
                  (bif Nat.beq pc 299 then some (.iload 6, 6, 0, 0, 0) else none)
                else
                  bif Nat.beq pc 301 then some (.iadd, 0, 0, 0, 0) else none)
            else
              bif Nat.blt pc 303 then
                (bif Nat.beq pc 302 then some (.aload_n 0, 0, 0, 0, 0) else none)
              else
                bif Nat.blt pc 306 then
                  (bif Nat.beq pc 303 then some (.getfield 16, 10, 6, 1, 0) else none)
                else
                  bif Nat.beq pc 306 then some (.iload_n 2, 2, 0, 0, 0) else none)
        else
          bif Nat.blt pc 319 then
            (bif Nat.blt pc 312 then
              (bif Nat.blt pc 308 then
                (bif Nat.beq pc 307 then some (.iaload, 0, 0, 0, 0) else none)
              else
                bif Nat.blt pc 311 then
                  (bif Nat.beq pc 308 then some (.if_icmp .ne (7), 315, 0, 0, 0) else none)
                else
                  bif Nat.beq pc 311 then some (.iconst 1, 0, 0, 0, 1) else none)
            else
              bif Nat.blt pc 315 then
                (bif Nat.beq pc 312 then some (.goto 4, 316, 0, 0, 0) else none)
              else
                bif Nat.blt pc 316 then
                  (bif Nat.beq pc 315 then some (.iconst 0, 0, 0, 0, 0) else none)
                else
                  bif Nat.beq pc 316 then some (.putfield 186, 10, 51, 0, 0) else none)
          else
            bif Nat.blt pc 325 then
              (bif Nat.blt pc 321 then
                (bif Nat.beq pc 319 then some (.iload 6, 6, 0, 0, 0) else none)
              else
                bif Nat.blt pc 324 then
                  (bif Nat.beq pc 321 then some (.ifCond .le (7), 328, 0, 0, 0) else none)
                else
                  bif Nat.beq pc 324 then some (.iconst 1, 0, 0, 0, 1) else none)
            else
              bif Nat.blt pc 328 then
                (bif Nat.beq pc 325 then some (.goto 4, 329, 0, 0, 0) else none)
              else
                bif Nat.blt pc 329 then
                  (bif Nat.beq pc 328 then some (.iconst 0, 0, 0, 0, 0) else none)
                else
                  bif Nat.beq pc 329 then some (.ireturn, 0, 0, 1, 0) else none
def i_M_plans : Nat → Option Ent := ab_tab 330 t_M_plans
def h_M_plans (pc : Nat) : Nat × List Bool := bif Nat.beq pc 23 then (1, [true, true, true, true, true, false, false]) else bif Nat.beq pc 50 then (1, [true, true, true, false, true, false, false]) else bif Nat.beq pc 66 then (1, [true, true, true, true, false, false, false]) else bif Nat.beq pc 95 then (1, [true, true, true, true, true, false, false]) else bif Nat.beq pc 162 then (1, [true, false, true, false, false, false, false]) else bif Nat.beq pc 205 then (1, [true, true, true, true, true, true, true]) else bif Nat.beq pc 271 then (1, [true, true, true, true, true, true, true]) else bif Nat.beq pc 277 then (1, [true, false, true, true, false, false, true]) else bif Nat.beq pc 315 then (1, [false, false, false, false, false, false, true]) else bif Nat.beq pc 316 then (1, [false, false, false, false, false, false, true]) else (0, [])
def s_M_plans (pc : Nat) : List (Int32 × Nat) × Nat := ([], 0)
noncomputable def eV_M_plans : Nat → List AV → Mm → Option Mm := ab_ev []
noncomputable def eI_M_plans : Nat → List AV → Mm → Option (Int32 × Mm) := ab_ev [(120, c_M_mayBeNew), (109, c_M_width), (112, c_M_fits)]
noncomputable def b_M_plans_0 (f : Nat) (v0 : Nat) (v1 : Int32) (v2 : Int32) (m : Mm) : Option Rs := ab_ex KT none s_M_plans eV_M_plans eI_M_plans i_M_plans h_M_plans f 0 [some (.inr (.inr (28, some v0))), some (.inl v1), some (.inl v2), none, none, none, none] [] m
noncomputable def b_M_plans_23 (f : Nat) (v0 : Nat) (v1 : Int32) (v2 : Int32) (v3 : Int32) (v4 : Int32) (m : Mm) : Option Rs := ab_ex KT none s_M_plans eV_M_plans eI_M_plans i_M_plans h_M_plans f 23 [some (.inr (.inr (28, some v0))), some (.inl v1), some (.inl v2), some (.inl v3), some (.inl v4), none, none] [] m
noncomputable def b_M_plans_50 (f : Nat) (v0 : Nat) (v1 : Int32) (v2 : Int32) (v4 : Int32) (u0 : Int32) (m : Mm) : Option Rs := ab_ex KT none s_M_plans eV_M_plans eI_M_plans i_M_plans h_M_plans f 50 [some (.inr (.inr (28, some v0))), some (.inl v1), some (.inl v2), none, some (.inl v4), none, none] [.inl u0] m
noncomputable def b_M_plans_66 (f : Nat) (v0 : Nat) (v1 : Int32) (v2 : Int32) (v3 : Int32) (u0 : Int32) (m : Mm) : Option Rs := ab_ex KT none s_M_plans eV_M_plans eI_M_plans i_M_plans h_M_plans f 66 [some (.inr (.inr (28, some v0))), some (.inl v1), some (.inl v2), some (.inl v3), none, none, none] [.inl u0] m
noncomputable def b_M_plans_95 (f : Nat) (v0 : Nat) (v1 : Int32) (v2 : Int32) (v3 : Int32) (v4 : Int32) (m : Mm) : Option Rs := ab_ex KT none s_M_plans eV_M_plans eI_M_plans i_M_plans h_M_plans f 95 [some (.inr (.inr (28, some v0))), some (.inl v1), some (.inl v2), some (.inl v3), some (.inl v4), none, none] [] m
noncomputable def b_M_plans_162 (f : Nat) (v0 : Nat) (v2 : Int32) (m : Mm) : Option Rs := ab_ex KT none s_M_plans eV_M_plans eI_M_plans i_M_plans h_M_plans f 162 [some (.inr (.inr (28, some v0))), none, some (.inl v2), none, none, none, none] [] m
noncomputable def b_M_plans_205 (f : Nat) (v0 : Nat) (v1 : Int32) (v2 : Int32) (v3 : Int32) (v4 : Int32) (v5 : Int32) (v6 : Int32) (m : Mm) : Option Rs := ab_ex KT none s_M_plans eV_M_plans eI_M_plans i_M_plans h_M_plans f 205 [some (.inr (.inr (28, some v0))), some (.inl v1), some (.inl v2), some (.inl v3), some (.inl v4), some (.inl v5), some (.inl v6)] [] m
noncomputable def b_M_plans_271 (f : Nat) (v0 : Nat) (v1 : Int32) (v2 : Int32) (v3 : Int32) (v4 : Int32) (v5 : Int32) (v6 : Int32) (m : Mm) : Option Rs := ab_ex KT none s_M_plans eV_M_plans eI_M_plans i_M_plans h_M_plans f 271 [some (.inr (.inr (28, some v0))), some (.inl v1), some (.inl v2), some (.inl v3), some (.inl v4), some (.inl v5), some (.inl v6)] [] m
noncomputable def b_M_plans_277 (f : Nat) (v0 : Nat) (v2 : Int32) (v3 : Int32) (v6 : Int32) (m : Mm) : Option Rs := ab_ex KT none s_M_plans eV_M_plans eI_M_plans i_M_plans h_M_plans f 277 [some (.inr (.inr (28, some v0))), none, some (.inl v2), some (.inl v3), none, none, some (.inl v6)] [] m
noncomputable def b_M_plans_315 (f : Nat) (v6 : Int32) (u0 : Nat) (m : Mm) : Option Rs := ab_ex KT none s_M_plans eV_M_plans eI_M_plans i_M_plans h_M_plans f 315 [none, none, none, none, none, none, some (.inl v6)] [.inr (.inr (28, some u0))] m
noncomputable def b_M_plans_316 (f : Nat) (v6 : Int32) (u0 : Nat) (u1 : Int32) (m : Mm) : Option Rs := ab_ex KT none s_M_plans eV_M_plans eI_M_plans i_M_plans h_M_plans f 316 [none, none, none, none, none, none, some (.inl v6)] [.inl u1, .inr (.inr (28, some u0))] m
set_option maxRecDepth 100000 in
set_option maxHeartbeats 4000000 in
theorem b_M_plans_0_eq (f : Nat) (v0 : Nat) (v1 : Int32) (v2 : Int32) (m : Mm) : b_M_plans_0 (f + 1) v0 v1 v2 m =
    (ab_ix v2 8).bind fun i1 =>
    if (m.1 141 (v0 + 9) i1) = 0 then
      (ab_ix v2 8).bind fun i2 =>
      ab_let (((m.1 135 (v0 + 3) i2) - (1 : Int32))) fun x3 =>
      b_M_plans_23 f v0 v1 v2 (-1 : Int32) x3 m
    else
      (ab_bo (0 : Int32)).bind fun y4 => some (.inl (some (.inl y4), m)) := rfl
set_option maxRecDepth 100000 in
set_option maxHeartbeats 4000000 in
theorem b_M_plans_23_eq (f : Nat) (v0 : Nat) (v1 : Int32) (v2 : Int32) (v3 : Int32) (v4 : Int32) (m : Mm) : b_M_plans_23 (f + 1) v0 v1 v2 v3 v4 m =
    if v4 < 0 then
      if v3 < 0 then
        b_M_plans_66 f v0 v1 v2 v3 (0 : Int32) m
      else
        b_M_plans_66 f v0 v1 v2 v3 (1 : Int32) m
    else
      (ab_ix (((64 : Int32) * v2) + v4) 512).bind fun i1 =>
      if (m.1 134 (v0 + 2) i1) = (2 : Int32) then
        b_M_plans_50 f v0 v1 v2 v4 v4 m
      else
        b_M_plans_50 f v0 v1 v2 v4 v3 m := rfl
set_option maxRecDepth 100000 in
set_option maxHeartbeats 4000000 in
theorem b_M_plans_50_eq (f : Nat) (v0 : Nat) (v1 : Int32) (v2 : Int32) (v4 : Int32) (u0 : Int32) (m : Mm) : b_M_plans_50 (f + 1) v0 v1 v2 v4 u0 m =
    ab_let (v4 + (-1 : Int32)) fun x1 =>
    b_M_plans_23 f v0 v1 v2 u0 x1 m := rfl
set_option maxRecDepth 100000 in
set_option maxHeartbeats 4000000 in
theorem b_M_plans_66_eq (f : Nat) (v0 : Nat) (v1 : Int32) (v2 : Int32) (v3 : Int32) (u0 : Int32) (m : Mm) : b_M_plans_66 (f + 1) v0 v1 v2 v3 u0 m =
    if u0 = 0 then
      (ab_ix v2 8).bind fun i1 =>
      (r_M_mayBeNew v0 v1 v2 (m.1 136 (v0 + 4) i1) m).bind fun z2 =>
      if z2.1 = 0 then
        b_M_plans_95 f v0 v1 v2 v3 u0 z2.2
      else
        (ab_ix v2 8).bind fun i3 =>
        ab_let ((z2.2.1 136 (v0 + 4) i3)) fun x4 =>
        b_M_plans_95 f v0 v1 v2 x4 u0 z2.2
    else
      b_M_plans_95 f v0 v1 v2 v3 u0 m := rfl
set_option maxRecDepth 100000 in
set_option maxHeartbeats 4000000 in
theorem b_M_plans_95_eq (f : Nat) (v0 : Nat) (v1 : Int32) (v2 : Int32) (v3 : Int32) (v4 : Int32) (m : Mm) : b_M_plans_95 (f + 1) v0 v1 v2 v3 v4 m =
    if 0 ≤ v3 then
      (r_M_width v3 m).bind fun z1 =>
      ab_let (((((37 : Int32) - (m.1 125 v0 0)) - (3 : Int32)) - z1.1)) fun x2 =>
      b_M_plans_205 f v0 v1 v2 v3 v4 x2 (0 : Int32) z1.2
    else
      (ab_ix v2 8).bind fun i3 =>
      ab_let (ab_uI m 130 v0 0 (m.1 135 (v0 + 3) i3)) fun m4 =>
      ab_let (ab_uI m4 131 v0 0 (0 : Int32)) fun m5 =>
      (ab_bo (1 : Int32)).bind fun y7 =>
      ab_let (ab_uI m5 132 v0 0 y7) fun m6 =>
      (ab_ix v2 8).bind fun i8 =>
      if (m6.1 140 (v0 + 8) i8) = 0 then
        (ab_bo (0 : Int32)).bind fun y9 => some (.inl (some (.inl y9), m6))
      else
        (ab_ix v2 8).bind fun i10 =>
        (ab_ix v2 8).bind fun i11 =>
        if (m6.1 136 (v0 + 4) i10) = (m6.1 135 (v0 + 3) i11) then
          (ab_ix v2 8).bind fun i13 =>
          if (m6.1 137 (v0 + 5) i13) = 0 then
            b_M_plans_162 f v0 v2 m6
          else
            (ab_ix v2 8).bind fun i14 =>
            if (m6.1 137 (v0 + 5) i14) = (2 : Int32) then
              b_M_plans_162 f v0 v2 m6
            else
              (ab_bo (0 : Int32)).bind fun y15 => some (.inl (some (.inl y15), m6))
        else
          (ab_bo (0 : Int32)).bind fun y12 => some (.inl (some (.inl y12), m6)) := rfl
set_option maxRecDepth 100000 in
set_option maxHeartbeats 4000000 in
theorem b_M_plans_162_eq (f : Nat) (v0 : Nat) (v2 : Int32) (m : Mm) : b_M_plans_162 (f + 1) v0 v2 m =
    (ab_ix v2 8).bind fun i1 =>
    (r_M_width (m.1 135 (v0 + 3) i1) m).bind fun z2 =>
    (r_M_fits v0 ((3 : Int32) + z2.1) z2.2).bind fun z3 =>
    if z3.1 = 0 then
      (ab_bo (0 : Int32)).bind fun y4 => some (.inl (some (.inl y4), z3.2))
    else
      (ab_bo (1 : Int32)).bind fun y5 => some (.inl (some (.inl y5), z3.2)) := rfl
set_option maxRecDepth 100000 in
set_option maxHeartbeats 4000000 in
theorem b_M_plans_205_eq (f : Nat) (v0 : Nat) (v1 : Int32) (v2 : Int32) (v3 : Int32) (v4 : Int32) (v5 : Int32) (v6 : Int32) (m : Mm) : b_M_plans_205 (f + 1) v0 v1 v2 v3 v4 v5 v6 m =
    if (12 : Int32) ≤ v6 then
      b_M_plans_277 f v0 v2 v3 v6 m
    else
      if v5 ≤ v6 then
        b_M_plans_277 f v0 v2 v3 v6 m
      else
        (ab_ix v2 8).bind fun i1 =>
        if (m.1 135 (v0 + 3) i1) ≤ (v3 + v6) then
          b_M_plans_277 f v0 v2 v3 v6 m
        else
          if v4 = 0 then
            (r_M_mayBeNew v0 v1 v2 (v3 + v6) m).bind fun z2 =>
            if z2.1 = 0 then
              b_M_plans_277 f v0 v2 v3 v6 z2.2
            else
              b_M_plans_271 f v0 v1 v2 v3 v4 v5 v6 z2.2
          else
            (ab_ix ((((64 : Int32) * v2) + v3) + v6) 512).bind fun i3 =>
            if (m.1 134 (v0 + 2) i3) = (2 : Int32) then
              b_M_plans_271 f v0 v1 v2 v3 v4 v5 v6 m
            else
              b_M_plans_277 f v0 v2 v3 v6 m := rfl
set_option maxRecDepth 100000 in
set_option maxHeartbeats 4000000 in
theorem b_M_plans_271_eq (f : Nat) (v0 : Nat) (v1 : Int32) (v2 : Int32) (v3 : Int32) (v4 : Int32) (v5 : Int32) (v6 : Int32) (m : Mm) : b_M_plans_271 (f + 1) v0 v1 v2 v3 v4 v5 v6 m =
    ab_let (v6 + (1 : Int32)) fun x1 =>
    b_M_plans_205 f v0 v1 v2 v3 v4 v5 x1 m := rfl
set_option maxRecDepth 100000 in
set_option maxHeartbeats 4000000 in
theorem b_M_plans_277_eq (f : Nat) (v0 : Nat) (v2 : Int32) (v3 : Int32) (v6 : Int32) (m : Mm) : b_M_plans_277 (f + 1) v0 v2 v3 v6 m =
    ab_let (ab_uI m 130 v0 0 v3) fun m1 =>
    ab_let (ab_uI m1 131 v0 0 v6) fun m2 =>
    (ab_ix v2 8).bind fun i3 =>
    if (m2.1 140 (v0 + 8) i3) = 0 then
      b_M_plans_315 f v6 v0 m2
    else
      (ab_ix v2 8).bind fun i4 =>
      if (v3 + v6) = (m2.1 135 (v0 + 3) i4) then
        b_M_plans_316 f v6 v0 (1 : Int32) m2
      else
        b_M_plans_315 f v6 v0 m2 := rfl
set_option maxRecDepth 100000 in
set_option maxHeartbeats 4000000 in
theorem b_M_plans_315_eq (f : Nat) (v6 : Int32) (u0 : Nat) (m : Mm) : b_M_plans_315 (f + 1) v6 u0 m =
    b_M_plans_316 f v6 u0 (0 : Int32) m := rfl
set_option maxRecDepth 100000 in
set_option maxHeartbeats 4000000 in
theorem b_M_plans_316_eq (f : Nat) (v6 : Int32) (u0 : Nat) (u1 : Int32) (m : Mm) : b_M_plans_316 (f + 1) v6 u0 u1 m =
    (ab_bo u1).bind fun y2 =>
    ab_let (ab_uI m 132 u0 0 y2) fun m1 =>
    if v6 ≤ 0 then
      (ab_bo (0 : Int32)).bind fun y3 => some (.inl (some (.inl y3), m1))
    else
      (ab_bo (1 : Int32)).bind fun y4 => some (.inl (some (.inl y4), m1)) := rfl
noncomputable def r_M_plans : Nat → Int32 → Int32 → Mm → Option (Int32 × Mm) := ab_seal fun v0 v1 v2 m => ab_rI (b_M_plans_0 50000 v0 v1 v2 m)
theorem r_M_plans_eq (v0 : Nat) (v1 : Int32) (v2 : Int32) (m : Mm) : r_M_plans v0 v1 v2 m = ab_rI (b_M_plans_0 50000 v0 v1 v2 m) := by
  unfold r_M_plans
  rw [ab_seal_eq]
noncomputable def c_M_plans : List AV → Mm → Option (Int32 × Mm) := fun av m => match av with
  | [.inr (.inr (kv0, ov0)), .inl v1, .inl v2] => if kv0 = 28 then (ov0.bind fun v0 => r_M_plans v0 v1 v2 m) else none
  | _ => none
theorem c_M_plans_inv {av : List AV} {m : Mm} {r : Int32 × Mm} (h : c_M_plans av m = some r) : ∃ (v0 : Nat) (v1 : Int32) (v2 : Int32), av = [.inr (.inr (28, some v0)), .inl v1, .inl v2] ∧ r_M_plans v0 v1 v2 m = some r := by
  unfold c_M_plans at h
  split at h
  · rename_i kv0 ov0 v1 v2
    by_cases hkv0 : kv0 = 28
    case neg => rw [if_neg hkv0] at h; cases h
    rw [if_pos hkv0] at h
    subst hkv0
    obtain ⟨v0, hev0, h⟩ := Option.bind_eq_some_iff.mp h
    subst hev0
    exact ⟨v0, v1, v2, rfl, h⟩
  · cases h
def cs_M_plans : List Nat := [82, 170, 174, 196, 265]
set_option maxRecDepth 100000 in
theorem E_M_plans : ∀ (pc : Nat) (q : Ent), i_M_plans pc = some q → ab_E KT CL ab_gW "StreamTransportModel" "plans" (some .boolean) prog_12_method_21_code s_M_plans 7 pc q.1 q.2.1 q.2.2.1 q.2.2.2.1 q.2.2.2.2 := fun pc q hq =>
  ab_Eb_ok lc_M lj_M fl_M (fpn_M "plans") nw_M na_M nq_M (ab_tab_all (t := t_M_plans) (chk := fun pc q => ab_Eb (some .boolean) prog_12_method_21_code s_M_plans 7 LC_M LJ_M FL_M FPn_M NW_M NA_M NQ_M pc q.1 q.2.1 q.2.2.1 q.2.2.2.1 q.2.2.2.2) (by decide +kernel) hq)
set_option maxRecDepth 100000 in
theorem kp_M_plans {av : List AV} {m : Mm} {r : Int32 × Mm} (h : c_M_plans av m = some r) : ab_kp m r.2 := by
  obtain ⟨v0, v1, v2, -, h⟩ := c_M_plans_inv h
  rw [r_M_plans_eq] at h
  have hV : ∀ a av m m', eV_M_plans a av m = some m' → ab_kp m m' := ab_ev_all (P := fun _ m r => ab_kp m r) [] (fun q hq => by cases hq)
  have hI : ∀ a av m q, eI_M_plans a av m = some q → ab_kp m q.2 := ab_ev_all (P := fun _ (m : Mm) (r : Int32 × Mm) => ab_kp m r.2) [(120, c_M_mayBeNew), (109, c_M_width), (112, c_M_fits)] (List.forall_mem_cons.mpr ⟨fun av m r h => kp_M_mayBeNew h, List.forall_mem_cons.mpr ⟨fun av m r h => kp_M_width h, List.forall_mem_cons.mpr ⟨fun av m r h => kp_M_fits h, fun q hq => by cases hq⟩⟩⟩)
  exact ab_kprel (ρ := .inl (some (.inl r.1), r.2)) (ab_tab_isn (t := t_M_plans) (by decide +kernel)) hV hI (ab_rI_inv h)
set_option maxRecDepth 100000 in
theorem cl_M_plans (l : Launch) : ∀ (pc : Nat) (q : Ent), i_M_plans pc = some q → ab_inv q.1 = true → ab_CR l KT CL none ab_gW "StreamTransportModel" prog_12_method_21_code 7 1 25 eV_M_plans eI_M_plans pc q := by
  intro pc q hq hi
  have hm : pc ∈ cs_M_plans := ab_tab_cs (t := t_M_plans) (by decide +kernel) hq hi
  simp only [cs_M_plans, List.mem_cons, List.not_mem_nil, or_false] at hm
  rcases hm with rfl | rfl | rfl | rfl | rfl
  · cases (Option.some.inj hq : ((.invokevirtual 177, 120, 4, 1, 0) : Ent) = q)
    exact ab_crV (C := "StreamTransportModel") (by decide +kernel) cw_M_mayBeNew (ab_gW_in 1225 (by decide +kernel) rfl) is_M_mayBeNew sl_M_mayBeNew (by decide) (fun av m m' h => by cases h) (fun av m r h => cm_M_mayBeNew l h) KT_nd
  · cases (Option.some.inj hq : ((.invokestatic 165, 109, 1, 1, 0) : Ent) = q)
    exact ab_crS (by decide +kernel) cw_M_width (ab_gW_in 1202 (by decide +kernel) rfl) st_M_width (by decide) (fun av m m' h => by cases h) (fun av m r h => cm_M_width l h) KT_nd
  · cases (Option.some.inj hq : ((.invokevirtual 190, 112, 2, 1, 0) : Ent) = q)
    exact ab_crV (C := "StreamTransportModel") (by decide +kernel) cw_M_fits (ab_gW_in 1217 (by decide +kernel) rfl) is_M_fits sl_M_fits (by decide) (fun av m m' h => by cases h) (fun av m r h => cm_M_fits l h) KT_nd
  · cases (Option.some.inj hq : ((.invokestatic 165, 109, 1, 1, 0) : Ent) = q)
    exact ab_crS (by decide +kernel) cw_M_width (ab_gW_in 1202 (by decide +kernel) rfl) st_M_width (by decide) (fun av m m' h => by cases h) (fun av m r h => cm_M_width l h) KT_nd
  · cases (Option.some.inj hq : ((.invokevirtual 177, 120, 4, 1, 0) : Ent) = q)
    exact ab_crV (C := "StreamTransportModel") (by decide +kernel) cw_M_mayBeNew (ab_gW_in 1225 (by decide +kernel) rfl) is_M_mayBeNew sl_M_mayBeNew (by decide) (fun av m m' h => by cases h) (fun av m r h => cm_M_mayBeNew l h) KT_nd
theorem cw_M_plans : ab_cw y_M_plans prog_12_method_21_code 7 2 (some .boolean) := ⟨ab_gW_in 1224 (by decide +kernel) rfl, ab_gW_in 71 (by decide +kernel) rfl, by decide +kernel, by decide +kernel, by decide +kernel⟩
theorem is_M_plans : Cond.instanceMethod y_M_plans ∈ ab_gW := ab_gW_in 1223 (by decide +kernel) rfl
theorem sl_M_plans : Cond.selects "StreamTransportModel" y_M_plans y_M_plans ∈ ab_gW := ab_gW_in 41 (by decide +kernel) rfl
set_option maxRecDepth 100000 in
theorem cm_M_plans (l : Launch) {av : List AV} {m : Mm} {r : Int32 × Mm} (h0 : c_M_plans av m = some r) : ∃ (k q : Nat) (av' : List AV) (ci : Nat) (fs : List (Nat × Nat × Nat × Nat)) (z : vw_C), av = .inr (.inr (k, some q)) :: av' ∧ av'.length = 2 ∧ k ≠ 0 ∧ KT[k]? = some (.inl (ci, fs)) ∧ CL[ci]? = some z ∧ z.1 = "StreamTransportModel" ∧ ab_nos av' ∧ ab_Met l KT CL y_M_plans (Cond.code y_M_plans prog_12_method_21_code 7 (some .boolean) :: ab_gW) 1 25 none av m (some (.inl r.1)) r.2 := by
  obtain ⟨v0, v1, v2, hav, h⟩ := c_M_plans_inv h0
  rw [r_M_plans_eq] at h
  have hmo : ab_mo m r.2 := ab_kp_mo (kp_M_plans h0)
  subst hav
  exact ⟨_, _, _, _, _, _, rfl, rfl, by decide, rfl, rfl, rfl, (by intro v hv q e; subst e; simp at hv), ab_met (by decide +kernel) KT_0 KT_nd KT_k3 E_M_plans (cl_M_plans l) hmo (Nat.le_of_ble_eq_true rfl) (ab_rI_inv h) (fun v hv => by cases hv; exact ⟨_, rfl⟩)⟩
/-! StreamTransportModel.putStream(III)V -/
def y_M_putStream : MethodName := ⟨"StreamTransportModel", "putStream", "(III)V"⟩
def t_M_putStream (pc : Nat) : Option Ent :=
  bif Nat.blt pc 114 then
    (bif Nat.blt pc 57 then
      (bif Nat.blt pc 26 then
        (bif Nat.blt pc 12 then
          (bif Nat.blt pc 6 then
            (bif Nat.blt pc 2 then
              (bif Nat.blt pc 1 then
                (bif Nat.beq pc 0 then some (.aload_n 0, 0, 0, 0, 0) else none)
              else
                bif Nat.beq pc 1 then some (.iconst 2, 0, 0, 0, 2) else none)
            else
              bif Nat.blt pc 5 then
                (bif Nat.beq pc 2 then some (.invokevirtual 168, 110, 2, 0, 0) else none)
              else
                bif Nat.beq pc 5 then some (.aload_n 0, 0, 0, 0, 0) else none)
          else
            bif Nat.blt pc 8 then
              (bif Nat.blt pc 7 then
                (bif Nat.beq pc 6 then some (.iload_n 2, 2, 0, 0, 0) else none)
              else
                bif Nat.beq pc 7 then some (.iconst 3, 0, 0, 0, 3) else none)
            else
              bif Nat.blt pc 9 then
                (bif Nat.beq pc 8 then some (.iand, 0, 0, 0, 0) else none)
              else
                bif Nat.beq pc 9 then some (.invokevirtual 168, 110, 2, 0, 0) else none)
        else
          bif Nat.blt pc 20 then
            (bif Nat.blt pc 14 then
              (bif Nat.blt pc 13 then
                (bif Nat.beq pc 12 then some (.aload_n 0, 0, 0, 0, 0) else none)
              else
                bif Nat.beq pc 13 then some (.aload_n 0, 0, 0, 0, 0) else none)
            else
              bif Nat.blt pc 17 then
                (bif Nat.beq pc 14 then some (.getfield 180, 10, 49, 0, 0) else none)
              else
                bif Nat.beq pc 17 then some (.invokevirtual 174, 111, 2, 0, 0) else none)
          else
            bif Nat.blt pc 22 then
              (bif Nat.blt pc 21 then
                (bif Nat.beq pc 20 then some (.aload_n 0, 0, 0, 0, 0) else none)
              else
                bif Nat.beq pc 21 then some (.iconst 2, 0, 0, 0, 2) else none)
            else
              bif Nat.blt pc 23 then
                (bif Nat.beq pc 22 then some (.aload_n 0, 0, 0, 0, 0) else none)
              else
                bif Nat.beq pc 23 then some (.getfield 183, 10, 50, 0, 0) else none)
      else
        bif Nat.blt pc 40 then
          (bif Nat.blt pc 34 then
            (bif Nat.blt pc 28 then
              (bif Nat.blt pc 27 then
                (bif Nat.beq pc 26 then some (.imul, 0, 0, 0, 0) else none)
              else
                bif Nat.beq pc 27 then some (.aload_n 0, 0, 0, 0, 0) else none)
            else
              bif Nat.blt pc 31 then
                (bif Nat.beq pc 28 then some (.getfield 186, 10, 51, 0, 0) else none)
              else
                bif Nat.beq pc 31 then some (.ifCond .eq (7), 38, 0, 0, 0) else none)
          else
            bif Nat.blt pc 38 then
              (bif Nat.blt pc 35 then
                (bif Nat.beq pc 34 then some (.iconst 1, 0, 0, 0, 1) else none)
              else
                bif Nat.beq pc 35 then some (.goto 4, 39, 0, 0, 0) else none)
            else
              bif Nat.blt pc 39 then
                (bif Nat.beq pc 38 then some (.iconst 0, 0, 0, 0, 0) else none)
              else
                bif Nat.beq pc 39 then some (.iadd, 0, 0, 0, 0) else none)
        else
          bif Nat.blt pc 48 then
            (bif Nat.blt pc 44 then
              (bif Nat.blt pc 43 then
                (bif Nat.beq pc 40 then some (.invokevirtual 168, 110, 2, 0, 0) else none)
              else
                bif Nat.beq pc 43 then some (.iconst 0, 0, 0, 0, 0) else none)
            else
              bif Nat.blt pc 46 then
                (bif Nat.beq pc 44 then some (.istore 4, 4, 0, 0, 0) else none)
              else
                bif Nat.beq pc 46 then some (.iload 4, 4, 0, 0, 0) else none)
          else
            bif Nat.blt pc 52 then
              (bif Nat.blt pc 49 then
                (bif Nat.beq pc 48 then some (.aload_n 0, 0, 0, 0, 0) else none)
              else
                bif Nat.beq pc 49 then some (.getfield 183, 10, 50, 0, 0) else none)
            else
              bif Nat.blt pc 55 then
                (bif Nat.beq pc 52 then some (.if_icmp .ge (48), 100, 0, 0, 0) else none)
              else
                bif Nat.blt pc 56 then
                  (bif Nat.beq pc 55 then some (.aload_n 0, 0, 0, 0, 0) else none)
                else
                  bif Nat.beq pc 56 then some (.aload_n 0, 0, 0, 0, 0) else none)
    else
      bif Nat.blt pc 84 then
        (bif Nat.blt pc 71 then
          (bif Nat.blt pc 64 then
            (bif Nat.blt pc 62 then
              (bif Nat.blt pc 60 then
                (bif Nat.beq pc 57 then some (.getfield 7, 10, 4, 1, 0) else none)
              else
                bif Nat.beq pc 60 then some (.bipush 64, 0, 0, 0, 64) else none)
            else
              bif Nat.blt pc 63 then
                (bif Nat.beq pc 62 then some (.iload_n 2, 2, 0, 0, 0) else none)
              else
                bif Nat.beq pc 63 then some (.imul, 0, 0, 0, 0) else none)
          else
            bif Nat.blt pc 68 then
              (bif Nat.blt pc 65 then
                (bif Nat.beq pc 64 then some (.aload_n 0, 0, 0, 0, 0) else none)
              else
                bif Nat.beq pc 65 then some (.getfield 180, 10, 49, 0, 0) else none)
            else
              bif Nat.blt pc 69 then
                (bif Nat.beq pc 68 then some (.iadd, 0, 0, 0, 0) else none)
              else
                bif Nat.beq pc 69 then some (.iload 4, 4, 0, 0, 0) else none)
        else
          bif Nat.blt pc 77 then
            (bif Nat.blt pc 73 then
              (bif Nat.blt pc 72 then
                (bif Nat.beq pc 71 then some (.iadd, 0, 0, 0, 0) else none)
              else
                bif Nat.beq pc 72 then some (.iaload, 0, 0, 0, 0) else none)
            else
              bif Nat.blt pc 76 then
                (bif Nat.beq pc 73 then some (.invokevirtual 168, 110, 2, 0, 0) else none)
              else
                bif Nat.beq pc 76 then some (.aload_n 0, 0, 0, 0, 0) else none)
          else
            bif Nat.blt pc 82 then
              (bif Nat.blt pc 80 then
                (bif Nat.beq pc 77 then some (.getfield 13, 10, 5, 1, 0) else none)
              else
                bif Nat.beq pc 80 then some (.bipush 64, 0, 0, 0, 64) else none)
            else
              bif Nat.blt pc 83 then
                (bif Nat.beq pc 82 then some (.iload_n 2, 2, 0, 0, 0) else none)
              else
                bif Nat.beq pc 83 then some (.imul, 0, 0, 0, 0) else none)
      else
        bif Nat.blt pc 97 then
          (bif Nat.blt pc 91 then
            (bif Nat.blt pc 88 then
              (bif Nat.blt pc 85 then
                (bif Nat.beq pc 84 then some (.aload_n 0, 0, 0, 0, 0) else none)
              else
                bif Nat.beq pc 85 then some (.getfield 180, 10, 49, 0, 0) else none)
            else
              bif Nat.blt pc 89 then
                (bif Nat.beq pc 88 then some (.iadd, 0, 0, 0, 0) else none)
              else
                bif Nat.beq pc 89 then some (.iload 4, 4, 0, 0, 0) else none)
          else
            bif Nat.blt pc 93 then
              (bif Nat.blt pc 92 then
                (bif Nat.beq pc 91 then some (.iadd, 0, 0, 0, 0) else none)
              else
                bif Nat.beq pc 92 then some (.iconst 1, 0, 0, 0, 1) else none)
            else
              bif Nat.blt pc 94 then
                (bif Nat.beq pc 93 then some (.iastore, 0, 0, 0, 0) else none)
              else
                bif Nat.beq pc 94 then some (.iinc 4 1, 4, 0, 0, 1) else none)
        else
          bif Nat.blt pc 105 then
            (bif Nat.blt pc 101 then
              (bif Nat.blt pc 100 then
                (bif Nat.beq pc 97 then some (.goto (-51), 46, 0, 0, 0) else none)
              else
                bif Nat.beq pc 100 then some (.aload_n 0, 0, 0, 0, 0) else none)
            else
              bif Nat.blt pc 104 then
                (bif Nat.beq pc 101 then some (.getfield 19, 10, 7, 1, 0) else none)
              else
                bif Nat.beq pc 104 then some (.iload_n 2, 2, 0, 0, 0) else none)
          else
            bif Nat.blt pc 109 then
              (bif Nat.blt pc 106 then
                (bif Nat.beq pc 105 then some (.aload_n 0, 0, 0, 0, 0) else none)
              else
                bif Nat.beq pc 106 then some (.getfield 180, 10, 49, 0, 0) else none)
            else
              bif Nat.blt pc 110 then
                (bif Nat.beq pc 109 then some (.aload_n 0, 0, 0, 0, 0) else none)
              else
                bif Nat.blt pc 113 then
                  (bif Nat.beq pc 110 then some (.getfield 183, 10, 50, 0, 0) else none)
                else
                  bif Nat.beq pc 113 then some (.iadd, 0, 0, 0, 0) else none)
  else
    bif Nat.blt pc 171 then
      (bif Nat.blt pc 142 then
        (bif Nat.blt pc 128 then
          (bif Nat.blt pc 120 then
            (bif Nat.blt pc 118 then
              (bif Nat.blt pc 115 then
                (bif Nat.beq pc 114 then some (.aload_n 0, 0, 0, 0, 0) else none)
              else
                bif Nat.beq pc 115 then some (.getfield 19, 10, 7, 1, 0) else none)
            else
              bif Nat.blt pc 119 then
                (bif Nat.beq pc 118 then some (.iload_n 2, 2, 0, 0, 0) else none)
              else
                bif Nat.beq pc 119 then some (.iaload, 0, 0, 0, 0) else none)
          else
            bif Nat.blt pc 124 then
              (bif Nat.blt pc 123 then
                (bif Nat.beq pc 120 then some (.if_icmp .le (15), 135, 0, 0, 0) else none)
              else
                bif Nat.beq pc 123 then some (.aload_n 0, 0, 0, 0, 0) else none)
            else
              bif Nat.blt pc 127 then
                (bif Nat.beq pc 124 then some (.getfield 180, 10, 49, 0, 0) else none)
              else
                bif Nat.beq pc 127 then some (.aload_n 0, 0, 0, 0, 0) else none)
        else
          bif Nat.blt pc 136 then
            (bif Nat.blt pc 132 then
              (bif Nat.blt pc 131 then
                (bif Nat.beq pc 128 then some (.getfield 183, 10, 50, 0, 0) else none)
              else
                bif Nat.beq pc 131 then some (.iadd, 0, 0, 0, 0) else none)
            else
              bif Nat.blt pc 135 then
                (bif Nat.beq pc 132 then some (.goto 9, 141, 0, 0, 0) else none)
              else
                bif Nat.beq pc 135 then some (.aload_n 0, 0, 0, 0, 0) else none)
          else
            bif Nat.blt pc 140 then
              (bif Nat.blt pc 139 then
                (bif Nat.beq pc 136 then some (.getfield 19, 10, 7, 1, 0) else none)
              else
                bif Nat.beq pc 139 then some (.iload_n 2, 2, 0, 0, 0) else none)
            else
              bif Nat.blt pc 141 then
                (bif Nat.beq pc 140 then some (.iaload, 0, 0, 0, 0) else none)
              else
                bif Nat.beq pc 141 then some (.iastore, 0, 0, 0, 0) else none)
      else
        bif Nat.blt pc 156 then
          (bif Nat.blt pc 150 then
            (bif Nat.blt pc 146 then
              (bif Nat.blt pc 143 then
                (bif Nat.beq pc 142 then some (.aload_n 0, 0, 0, 0, 0) else none)
              else
                bif Nat.beq pc 143 then some (.getfield 186, 10, 51, 0, 0) else none)
            else
              bif Nat.blt pc 149 then
                (bif Nat.beq pc 146 then some (.ifCond .eq (20), 166, 0, 0, 0) else none)
              else
                bif Nat.beq pc 149 then some (.aload_n 0, 0, 0, 0, 0) else none)
          else
            bif Nat.blt pc 154 then
              (bif Nat.blt pc 153 then
                (bif Nat.beq pc 150 then some (.getfield 22, 10, 8, 1, 0) else none)
              else
                bif Nat.beq pc 153 then some (.iload_n 2, 2, 0, 0, 0) else none)
            else
              bif Nat.blt pc 155 then
                (bif Nat.beq pc 154 then some (.iaload, 0, 0, 0, 0) else none)
              else
                bif Nat.beq pc 155 then some (.iconst 3, 0, 0, 0, 3) else none)
        else
          bif Nat.blt pc 164 then
            (bif Nat.blt pc 160 then
              (bif Nat.blt pc 159 then
                (bif Nat.beq pc 156 then some (.if_icmp .eq (10), 166, 0, 0, 0) else none)
              else
                bif Nat.beq pc 159 then some (.aload_n 0, 0, 0, 0, 0) else none)
            else
              bif Nat.blt pc 163 then
                (bif Nat.beq pc 160 then some (.getfield 22, 10, 8, 1, 0) else none)
              else
                bif Nat.beq pc 163 then some (.iload_n 2, 2, 0, 0, 0) else none)
          else
            bif Nat.blt pc 166 then
              (bif Nat.blt pc 165 then
                (bif Nat.beq pc 164 then some (.iconst 1, 0, 0, 0, 1) else none)
              else
                bif Nat.beq pc 165 then some (.iastore, 0, 0, 0, 0) else none)
            else
              bif Nat.blt pc 167 then
                (bif Nat.beq pc 166 then some (.aload_n 0, 0, 0, 0, 0) else none)
              else
                bif Nat.blt pc 170 then
                  (bif Nat.beq pc 167 then some (.getfield 107, 10, 36, 1, 0) else none)
                else
                  bif Nat.beq pc 170 then some (.iconst 4, 0, 0, 0, 4) else none)
    else
      bif Nat.blt pc 189 then
        (bif Nat.blt pc 181 then
          (bif Nat.blt pc 175 then
            (bif Nat.blt pc 173 then
              (bif Nat.blt pc 172 then
                (bif Nat.beq pc 171 then some (.iload_n 3, 3, 0, 0, 0) else none)
              else
                bif Nat.beq pc 172 then some (.imul, 0, 0, 0, 0) else none)
            else
              bif Nat.blt pc 174 then
                (bif Nat.beq pc 173 then some (.iload_n 2, 2, 0, 0, 0) else none)
              else
                bif Nat.beq pc 174 then some (.iconst 3, 0, 0, 0, 3) else none)
          else
            bif Nat.blt pc 177 then
              (bif Nat.blt pc 176 then
                (bif Nat.beq pc 175 then some (.iand, 0, 0, 0, 0) else none)
              else
                bif Nat.beq pc 176 then some (.iadd, 0, 0, 0, 0) else none)
            else
              bif Nat.blt pc 178 then
                (bif Nat.beq pc 177 then some (.aload_n 0, 0, 0, 0, 0) else none)
              else
                bif Nat.beq pc 178 then some (.getfield 107, 10, 36, 1, 0) else none)
        else
          bif Nat.blt pc 185 then
            (bif Nat.blt pc 183 then
              (bif Nat.blt pc 182 then
                (bif Nat.beq pc 181 then some (.iconst 4, 0, 0, 0, 4) else none)
              else
                bif Nat.beq pc 182 then some (.iload_n 3, 3, 0, 0, 0) else none)
            else
              bif Nat.blt pc 184 then
                (bif Nat.beq pc 183 then some (.imul, 0, 0, 0, 0) else none)
              else
                bif Nat.beq pc 184 then some (.iload_n 2, 2, 0, 0, 0) else none)
          else
            bif Nat.blt pc 187 then
              (bif Nat.blt pc 186 then
                (bif Nat.beq pc 185 then some (.iconst 3, 0, 0, 0, 3) else none)
              else
                bif Nat.beq pc 186 then some (.iand, 0, 0, 0, 0) else none)
            else
              bif Nat.blt pc 188 then
                (bif Nat.beq pc 187 then some (.iadd, 0, 0, 0, 0) else none)
              else
                bif Nat.beq pc 188 then some (.iaload, 0, 0, 0, 0) else none)
      else
        bif Nat.blt pc 202 then
          (bif Nat.blt pc 195 then
            (bif Nat.blt pc 193 then
              (bif Nat.blt pc 190 then
                (bif Nat.beq pc 189 then some (.aload_n 0, 0, 0, 0, 0) else none)
              else
                bif Nat.beq pc 190 then some (.getfield 180, 10, 49, 0, 0) else none)
            else
              bif Nat.blt pc 194 then
                (bif Nat.beq pc 193 then some (.ior, 0, 0, 0, 0) else none)
              else
                bif Nat.beq pc 194 then some (.aload_n 0, 0, 0, 0, 0) else none)
          else
            bif Nat.blt pc 200 then
              (bif Nat.blt pc 198 then
                (bif Nat.beq pc 195 then some (.getfield 183, 10, 50, 0, 0) else none)
              else
                bif Nat.beq pc 198 then some (.bipush 7, 0, 0, 0, 7) else none)
            else
              bif Nat.blt pc 201 then
                (bif Nat.beq pc 200 then some (.ishl, 0, 0, 0, 0) else none)
              else
                bif Nat.beq pc 201 then some (.ior, 0, 0, 0, 0) else none)
        else
          bif Nat.blt pc 212 then
            (bif Nat.blt pc 206 then
              (bif Nat.blt pc 203 then
                (bif Nat.beq pc 202 then some (.aload_n 0, 0, 0, 0, 0) else none)
              else
                bif Nat.beq pc 203 then some (.getfield 186, 10, 51, 0, 0) else none)
            else
              bif Nat.blt pc 209 then
                (bif Nat.beq pc 206 then some (.ifCond .eq (9), 215, 0, 0, 0) else none)
              else
                bif Nat.beq pc 209 then some (.sipush 2048, 0, 0, 0, 2048) else none)
          else
            bif Nat.blt pc 216 then
              (bif Nat.blt pc 215 then
                (bif Nat.beq pc 212 then some (.goto 4, 216, 0, 0, 0) else none)
              else
                bif Nat.beq pc 215 then some (.iconst 0, 0, 0, 0, 0) else none)
            else
              bif Nat.blt pc 217 then
                (bif Nat.beq pc 216 then some (.ior, 0, 0, 0, 0) else none)
              else
                bif Nat.blt pc 218 then
                  (bif Nat.beq pc 217 then some (.iastore, 0, 0, 0, 0) else none)
                else
                  bif Nat.beq pc 218 then some (.return_, 0, 0, 0, 0) else none
def i_M_putStream : Nat → Option Ent := ab_tab 219 t_M_putStream
def h_M_putStream (pc : Nat) : Nat × List Bool := bif Nat.beq pc 39 then (1, [true, false, true, true, false]) else bif Nat.beq pc 46 then (1, [true, false, true, true, true]) else bif Nat.beq pc 141 then (1, [true, false, true, true, false]) else bif Nat.beq pc 166 then (1, [true, false, true, true, false]) else bif Nat.beq pc 216 then (1, [false, false, false, false, false]) else (0, [])
def s_M_putStream (pc : Nat) : List (Int32 × Nat) × Nat := ([], 0)
noncomputable def eV_M_putStream : Nat → List AV → Mm → Option Mm := ab_ev [(110, c_M_put), (111, c_M_putNumber)]
noncomputable def eI_M_putStream : Nat → List AV → Mm → Option (Int32 × Mm) := ab_ev []
noncomputable def b_M_putStream_0 (f : Nat) (v0 : Nat) (v1 : Int32) (v2 : Int32) (v3 : Int32) (m : Mm) : Option Rs := ab_ex KT none s_M_putStream eV_M_putStream eI_M_putStream i_M_putStream h_M_putStream f 0 [some (.inr (.inr (28, some v0))), some (.inl v1), some (.inl v2), some (.inl v3), none] [] m
noncomputable def b_M_putStream_39 (f : Nat) (v0 : Nat) (v2 : Int32) (v3 : Int32) (u0 : Nat) (u1 : Int32) (u2 : Int32) (m : Mm) : Option Rs := ab_ex KT none s_M_putStream eV_M_putStream eI_M_putStream i_M_putStream h_M_putStream f 39 [some (.inr (.inr (28, some v0))), none, some (.inl v2), some (.inl v3), none] [.inl u2, .inl u1, .inr (.inr (28, some u0))] m
noncomputable def b_M_putStream_46 (f : Nat) (v0 : Nat) (v2 : Int32) (v3 : Int32) (v4 : Int32) (m : Mm) : Option Rs := ab_ex KT none s_M_putStream eV_M_putStream eI_M_putStream i_M_putStream h_M_putStream f 46 [some (.inr (.inr (28, some v0))), none, some (.inl v2), some (.inl v3), some (.inl v4)] [] m
noncomputable def b_M_putStream_141 (f : Nat) (v0 : Nat) (v2 : Int32) (v3 : Int32) (u0 : Nat) (u1 : Int32) (u2 : Int32) (m : Mm) : Option Rs := ab_ex KT none s_M_putStream eV_M_putStream eI_M_putStream i_M_putStream h_M_putStream f 141 [some (.inr (.inr (28, some v0))), none, some (.inl v2), some (.inl v3), none] [.inl u2, .inl u1, .inr (.inr (32, some u0))] m
noncomputable def b_M_putStream_166 (f : Nat) (v0 : Nat) (v2 : Int32) (v3 : Int32) (m : Mm) : Option Rs := ab_ex KT none s_M_putStream eV_M_putStream eI_M_putStream i_M_putStream h_M_putStream f 166 [some (.inr (.inr (28, some v0))), none, some (.inl v2), some (.inl v3), none] [] m
noncomputable def b_M_putStream_216 (f : Nat) (u0 : Nat) (u1 : Int32) (u2 : Int32) (u3 : Int32) (m : Mm) : Option Rs := ab_ex KT none s_M_putStream eV_M_putStream eI_M_putStream i_M_putStream h_M_putStream f 216 [none, none, none, none, none] [.inl u3, .inl u2, .inl u1, .inr (.inr (61, some u0))] m
set_option maxRecDepth 100000 in
set_option maxHeartbeats 4000000 in
theorem b_M_putStream_0_eq (f : Nat) (v0 : Nat) (v1 : Int32) (v2 : Int32) (v3 : Int32) (m : Mm) : b_M_putStream_0 (f + 1) v0 v1 v2 v3 m =
    (r_M_put v0 (2 : Int32) m).bind fun m1 =>
    (r_M_put v0 (v2 &&& (3 : Int32)) m1).bind fun m2 =>
    (r_M_putNumber v0 (m2.1 130 v0 0) m2).bind fun m3 =>
    if (m3.1 132 v0 0) = 0 then
      b_M_putStream_39 f v0 v2 v3 v0 ((2 : Int32) * (m3.1 131 v0 0)) (0 : Int32) m3
    else
      b_M_putStream_39 f v0 v2 v3 v0 ((2 : Int32) * (m3.1 131 v0 0)) (1 : Int32) m3 := rfl
set_option maxRecDepth 100000 in
set_option maxHeartbeats 4000000 in
theorem b_M_putStream_39_eq (f : Nat) (v0 : Nat) (v2 : Int32) (v3 : Int32) (u0 : Nat) (u1 : Int32) (u2 : Int32) (m : Mm) : b_M_putStream_39 (f + 1) v0 v2 v3 u0 u1 u2 m =
    (r_M_put u0 (u1 + u2) m).bind fun m1 =>
    b_M_putStream_46 f v0 v2 v3 (0 : Int32) m1 := rfl
set_option maxRecDepth 100000 in
set_option maxHeartbeats 4000000 in
theorem b_M_putStream_46_eq (f : Nat) (v0 : Nat) (v2 : Int32) (v3 : Int32) (v4 : Int32) (m : Mm) : b_M_putStream_46 (f + 1) v0 v2 v3 v4 m =
    if (m.1 131 v0 0) ≤ v4 then
      (ab_ix v2 8).bind fun i1 =>
      if ((m.1 130 v0 0) + (m.1 131 v0 0)) ≤ (m.1 136 (v0 + 4) i1) then
        (ab_ix v2 8).bind fun i2 =>
        b_M_putStream_141 f v0 v2 v3 (v0 + 4) v2 (m.1 136 (v0 + 4) i2) m
      else
        b_M_putStream_141 f v0 v2 v3 (v0 + 4) v2 ((m.1 130 v0 0) + (m.1 131 v0 0)) m
    else
      (ab_ix ((((64 : Int32) * v2) + (m.1 130 v0 0)) + v4) 512).bind fun i3 =>
      (r_M_put v0 (m.1 133 (v0 + 1) i3) m).bind fun m4 =>
      (ab_ix ((((64 : Int32) * v2) + (m4.1 130 v0 0)) + v4) 512).bind fun i5 =>
      ab_let (ab_uI m4 134 (v0 + 2) i5 (1 : Int32)) fun m6 =>
      ab_let (v4 + (1 : Int32)) fun x7 =>
      b_M_putStream_46 f v0 v2 v3 x7 m6 := rfl
set_option maxRecDepth 100000 in
set_option maxHeartbeats 4000000 in
theorem b_M_putStream_141_eq (f : Nat) (v0 : Nat) (v2 : Int32) (v3 : Int32) (u0 : Nat) (u1 : Int32) (u2 : Int32) (m : Mm) : b_M_putStream_141 (f + 1) v0 v2 v3 u0 u1 u2 m =
    (ab_ix u1 8).bind fun i1 =>
    ab_let (ab_uI m 136 u0 i1 u2) fun m2 =>
    if (m2.1 132 v0 0) = 0 then
      b_M_putStream_166 f v0 v2 v3 m2
    else
      (ab_ix v2 8).bind fun i3 =>
      if (m2.1 137 (v0 + 5) i3) = (3 : Int32) then
        b_M_putStream_166 f v0 v2 v3 m2
      else
        (ab_ix v2 8).bind fun i4 =>
        ab_let (ab_uI m2 137 (v0 + 5) i4 (1 : Int32)) fun m5 =>
        b_M_putStream_166 f v0 v2 v3 m5 := rfl
set_option maxRecDepth 100000 in
set_option maxHeartbeats 4000000 in
theorem b_M_putStream_166_eq (f : Nat) (v0 : Nat) (v2 : Int32) (v3 : Int32) (m : Mm) : b_M_putStream_166 (f + 1) v0 v2 v3 m =
    (ab_ix (((4 : Int32) * v3) + (v2 &&& (3 : Int32))) 4480).bind fun i1 =>
    if (m.1 132 v0 0) = 0 then
      b_M_putStream_216 f (v0 + 33) (((4 : Int32) * v3) + (v2 &&& (3 : Int32))) (((m.1 165 (v0 + 33) i1) ||| (m.1 130 v0 0)) ||| ((m.1 131 v0 0) <<< ((7 : Int32) &&& 31))) (0 : Int32) m
    else
      b_M_putStream_216 f (v0 + 33) (((4 : Int32) * v3) + (v2 &&& (3 : Int32))) (((m.1 165 (v0 + 33) i1) ||| (m.1 130 v0 0)) ||| ((m.1 131 v0 0) <<< ((7 : Int32) &&& 31))) (2048 : Int32) m := rfl
set_option maxRecDepth 100000 in
set_option maxHeartbeats 4000000 in
theorem b_M_putStream_216_eq (f : Nat) (u0 : Nat) (u1 : Int32) (u2 : Int32) (u3 : Int32) (m : Mm) : b_M_putStream_216 (f + 1) u0 u1 u2 u3 m =
    (ab_ix u1 4480).bind fun i1 =>
    ab_let (ab_uI m 165 u0 i1 (u2 ||| u3)) fun m2 =>
    some (.inl (none, m2)) := rfl
noncomputable def r_M_putStream : Nat → Int32 → Int32 → Int32 → Mm → Option Mm := ab_seal fun v0 v1 v2 v3 m => ab_rV (b_M_putStream_0 50000 v0 v1 v2 v3 m)
theorem r_M_putStream_eq (v0 : Nat) (v1 : Int32) (v2 : Int32) (v3 : Int32) (m : Mm) : r_M_putStream v0 v1 v2 v3 m = ab_rV (b_M_putStream_0 50000 v0 v1 v2 v3 m) := by
  unfold r_M_putStream
  rw [ab_seal_eq]
noncomputable def c_M_putStream : List AV → Mm → Option Mm := fun av m => match av with
  | [.inr (.inr (kv0, ov0)), .inl v1, .inl v2, .inl v3] => if kv0 = 28 then (ov0.bind fun v0 => r_M_putStream v0 v1 v2 v3 m) else none
  | _ => none
theorem c_M_putStream_inv {av : List AV} {m : Mm} {r : Mm} (h : c_M_putStream av m = some r) : ∃ (v0 : Nat) (v1 : Int32) (v2 : Int32) (v3 : Int32), av = [.inr (.inr (28, some v0)), .inl v1, .inl v2, .inl v3] ∧ r_M_putStream v0 v1 v2 v3 m = some r := by
  unfold c_M_putStream at h
  split at h
  · rename_i kv0 ov0 v1 v2 v3
    by_cases hkv0 : kv0 = 28
    case neg => rw [if_neg hkv0] at h; cases h
    rw [if_pos hkv0] at h
    subst hkv0
    obtain ⟨v0, hev0, h⟩ := Option.bind_eq_some_iff.mp h
    subst hev0
    exact ⟨v0, v1, v2, v3, rfl, h⟩
  · cases h
def cs_M_putStream : List Nat := [2, 9, 17, 40, 73]
set_option maxRecDepth 100000 in
theorem E_M_putStream : ∀ (pc : Nat) (q : Ent), i_M_putStream pc = some q → ab_E KT CL ab_gW "StreamTransportModel" "putStream" none prog_12_method_22_code s_M_putStream 5 pc q.1 q.2.1 q.2.2.1 q.2.2.2.1 q.2.2.2.2 := fun pc q hq =>
  ab_Eb_ok lc_M lj_M fl_M (fpn_M "putStream") nw_M na_M nq_M (ab_tab_all (t := t_M_putStream) (chk := fun pc q => ab_Eb none prog_12_method_22_code s_M_putStream 5 LC_M LJ_M FL_M FPn_M NW_M NA_M NQ_M pc q.1 q.2.1 q.2.2.1 q.2.2.2.1 q.2.2.2.2) (by decide +kernel) hq)
set_option maxRecDepth 100000 in
theorem kp_M_putStream {av : List AV} {m : Mm} {r : Mm} (h : c_M_putStream av m = some r) : ab_kp m r := by
  obtain ⟨v0, v1, v2, v3, -, h⟩ := c_M_putStream_inv h
  rw [r_M_putStream_eq] at h
  have hV : ∀ a av m m', eV_M_putStream a av m = some m' → ab_kp m m' := ab_ev_all (P := fun _ m r => ab_kp m r) [(110, c_M_put), (111, c_M_putNumber)] (List.forall_mem_cons.mpr ⟨fun av m r h => kp_M_put h, List.forall_mem_cons.mpr ⟨fun av m r h => kp_M_putNumber h, fun q hq => by cases hq⟩⟩)
  have hI : ∀ a av m q, eI_M_putStream a av m = some q → ab_kp m q.2 := ab_ev_all (P := fun _ (m : Mm) (r : Int32 × Mm) => ab_kp m r.2) [] (fun q hq => by cases hq)
  exact ab_kprel (ρ := .inl (none, r)) (ab_tab_isn (t := t_M_putStream) (by decide +kernel)) hV hI (ab_rV_inv h)
set_option maxRecDepth 100000 in
theorem cl_M_putStream (l : Launch) : ∀ (pc : Nat) (q : Ent), i_M_putStream pc = some q → ab_inv q.1 = true → ab_CR l KT CL none ab_gW "StreamTransportModel" prog_12_method_22_code 5 2 43 eV_M_putStream eI_M_putStream pc q := by
  intro pc q hq hi
  have hm : pc ∈ cs_M_putStream := ab_tab_cs (t := t_M_putStream) (by decide +kernel) hq hi
  simp only [cs_M_putStream, List.mem_cons, List.not_mem_nil, or_false] at hm
  rcases hm with rfl | rfl | rfl | rfl | rfl
  · cases (Option.some.inj hq : ((.invokevirtual 168, 110, 2, 0, 0) : Ent) = q)
    exact ab_crV (C := "StreamTransportModel") (by decide +kernel) cw_M_put (ab_gW_in 1194 (by decide +kernel) rfl) is_M_put sl_M_put (by decide) (fun av m m' h => cm_M_put l h) (fun av m r h => by cases h) KT_nd
  · cases (Option.some.inj hq : ((.invokevirtual 168, 110, 2, 0, 0) : Ent) = q)
    exact ab_crV (C := "StreamTransportModel") (by decide +kernel) cw_M_put (ab_gW_in 1194 (by decide +kernel) rfl) is_M_put sl_M_put (by decide) (fun av m m' h => cm_M_put l h) (fun av m r h => by cases h) KT_nd
  · cases (Option.some.inj hq : ((.invokevirtual 174, 111, 2, 0, 0) : Ent) = q)
    exact ab_crV (C := "StreamTransportModel") (by decide +kernel) cw_M_putNumber (ab_gW_in 1198 (by decide +kernel) rfl) is_M_putNumber sl_M_putNumber (by decide) (fun av m m' h => cm_M_putNumber l h) (fun av m r h => by cases h) KT_nd
  · cases (Option.some.inj hq : ((.invokevirtual 168, 110, 2, 0, 0) : Ent) = q)
    exact ab_crV (C := "StreamTransportModel") (by decide +kernel) cw_M_put (ab_gW_in 1194 (by decide +kernel) rfl) is_M_put sl_M_put (by decide) (fun av m m' h => cm_M_put l h) (fun av m r h => by cases h) KT_nd
  · cases (Option.some.inj hq : ((.invokevirtual 168, 110, 2, 0, 0) : Ent) = q)
    exact ab_crV (C := "StreamTransportModel") (by decide +kernel) cw_M_put (ab_gW_in 1194 (by decide +kernel) rfl) is_M_put sl_M_put (by decide) (fun av m m' h => cm_M_put l h) (fun av m r h => by cases h) KT_nd
theorem cw_M_putStream : ab_cw y_M_putStream prog_12_method_22_code 5 3 none := ⟨ab_gW_in 1232 (by decide +kernel) rfl, ab_gW_in 71 (by decide +kernel) rfl, by decide +kernel, by decide +kernel, by decide +kernel⟩
theorem is_M_putStream : Cond.instanceMethod y_M_putStream ∈ ab_gW := ab_gW_in 1231 (by decide +kernel) rfl
theorem sl_M_putStream : Cond.selects "StreamTransportModel" y_M_putStream y_M_putStream ∈ ab_gW := ab_gW_in 43 (by decide +kernel) rfl
set_option maxRecDepth 100000 in
theorem cm_M_putStream (l : Launch) {av : List AV} {m : Mm} {r : Mm} (h0 : c_M_putStream av m = some r) : ∃ (k q : Nat) (av' : List AV) (ci : Nat) (fs : List (Nat × Nat × Nat × Nat)) (z : vw_C), av = .inr (.inr (k, some q)) :: av' ∧ av'.length = 3 ∧ k ≠ 0 ∧ KT[k]? = some (.inl (ci, fs)) ∧ CL[ci]? = some z ∧ z.1 = "StreamTransportModel" ∧ ab_nos av' ∧ ab_Met l KT CL y_M_putStream (Cond.code y_M_putStream prog_12_method_22_code 5 none :: ab_gW) 2 43 none av m none r := by
  obtain ⟨v0, v1, v2, v3, hav, h⟩ := c_M_putStream_inv h0
  rw [r_M_putStream_eq] at h
  have hmo : ab_mo m r := ab_kp_mo (kp_M_putStream h0)
  subst hav
  exact ⟨_, _, _, _, _, _, rfl, rfl, by decide, rfl, rfl, rfl, (by intro v hv q e; subst e; simp at hv), ab_met (by decide +kernel) KT_0 KT_nd KT_k3 E_M_putStream (cl_M_putStream l) hmo (Nat.le_of_ble_eq_true rfl) (ab_rV_inv h) (fun v hv => by cases hv)⟩
end
