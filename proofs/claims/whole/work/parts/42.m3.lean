section
/-! StreamTransportModel.putSmall(II)Z -/
def y_M_putSmall : MethodName := ⟨"StreamTransportModel", "putSmall", "(II)Z"⟩
def t_M_putSmall (pc : Nat) : Option Ent :=
  bif Nat.blt pc 172 then
    (bif Nat.blt pc 86 then
      (bif Nat.blt pc 47 then
        (bif Nat.blt pc 21 then
          (bif Nat.blt pc 10 then
            (bif Nat.blt pc 5 then
              (bif Nat.blt pc 1 then
                (bif Nat.beq pc 0 then some (.aload_n 0, 0, 0, 0, 0) else none)
              else
                bif Nat.blt pc 4 then
                  (bif Nat.beq pc 1 then some (.getfield 162, 10, 44, 0, 0) else none)
                else
                  bif Nat.beq pc 4 then some (.istore_n 3, 3, 0, 0, 0) else none)
            else
              bif Nat.blt pc 6 then
                (bif Nat.beq pc 5 then some (.aload_n 0, 0, 0, 0, 0) else none)
              else
                bif Nat.blt pc 9 then
                  (bif Nat.beq pc 6 then some (.getfield 83, 10, 28, 1, 0) else none)
                else
                  bif Nat.beq pc 9 then some (.iload_n 1, 1, 0, 0, 0) else none)
          else
            bif Nat.blt pc 15 then
              (bif Nat.blt pc 11 then
                (bif Nat.beq pc 10 then some (.baload, 0, 0, 0, 0) else none)
              else
                bif Nat.blt pc 14 then
                  (bif Nat.beq pc 11 then some (.ifCond .eq (65), 76, 0, 0, 0) else none)
                else
                  bif Nat.beq pc 14 then some (.aload_n 0, 0, 0, 0, 0) else none)
            else
              bif Nat.blt pc 17 then
                (bif Nat.blt pc 16 then
                  (bif Nat.beq pc 15 then some (.iconst 1, 0, 0, 0, 1) else none)
                else
                  bif Nat.beq pc 16 then some (.aload_n 0, 0, 0, 0, 0) else none)
              else
                bif Nat.blt pc 18 then
                  (bif Nat.beq pc 17 then some (.iload_n 1, 1, 0, 0, 0) else none)
                else
                  bif Nat.beq pc 18 then some (.invokevirtual 159, 107, 2, 1, 0) else none)
        else
          bif Nat.blt pc 36 then
            (bif Nat.blt pc 28 then
              (bif Nat.blt pc 24 then
                (bif Nat.beq pc 21 then some (.invokestatic 165, 109, 1, 1, 0) else none)
              else
                bif Nat.blt pc 25 then
                  (bif Nat.beq pc 24 then some (.iadd, 0, 0, 0, 0) else none)
                else
                  bif Nat.beq pc 25 then some (.invokevirtual 190, 112, 2, 1, 0) else none)
            else
              bif Nat.blt pc 32 then
                (bif Nat.blt pc 31 then
                  (bif Nat.beq pc 28 then some (.ifCond .eq (48), 76, 0, 0, 0) else none)
                else
                  bif Nat.beq pc 31 then some (.aload_n 0, 0, 0, 0, 0) else none)
              else
                bif Nat.blt pc 35 then
                  (bif Nat.beq pc 32 then some (.getfield 62, 10, 21, 1, 0) else none)
                else
                  bif Nat.beq pc 35 then some (.iload_n 1, 1, 0, 0, 0) else none)
          else
            bif Nat.blt pc 41 then
              (bif Nat.blt pc 37 then
                (bif Nat.beq pc 36 then some (.aload_n 0, 0, 0, 0, 0) else none)
              else
                bif Nat.blt pc 38 then
                  (bif Nat.beq pc 37 then some (.iload_n 1, 1, 0, 0, 0) else none)
                else
                  bif Nat.beq pc 38 then some (.invokevirtual 159, 107, 2, 1, 0) else none)
            else
              bif Nat.blt pc 43 then
                (bif Nat.blt pc 42 then
                  (bif Nat.beq pc 41 then some (.iastore, 0, 0, 0, 0) else none)
                else
                  bif Nat.beq pc 42 then some (.aload_n 0, 0, 0, 0, 0) else none)
              else
                bif Nat.blt pc 46 then
                  (bif Nat.beq pc 43 then some (.getfield 104, 10, 35, 1, 0) else none)
                else
                  bif Nat.beq pc 46 then some (.iload_n 2, 2, 0, 0, 0) else none)
      else
        bif Nat.blt pc 66 then
          (bif Nat.blt pc 55 then
            (bif Nat.blt pc 52 then
              (bif Nat.blt pc 48 then
                (bif Nat.beq pc 47 then some (.aload_n 0, 0, 0, 0, 0) else none)
              else
                bif Nat.blt pc 51 then
                  (bif Nat.beq pc 48 then some (.getfield 62, 10, 21, 1, 0) else none)
                else
                  bif Nat.beq pc 51 then some (.iload_n 1, 1, 0, 0, 0) else none)
            else
              bif Nat.blt pc 53 then
                (bif Nat.beq pc 52 then some (.iaload, 0, 0, 0, 0) else none)
              else
                bif Nat.blt pc 54 then
                  (bif Nat.beq pc 53 then some (.iastore, 0, 0, 0, 0) else none)
                else
                  bif Nat.beq pc 54 then some (.aload_n 0, 0, 0, 0, 0) else none)
          else
            bif Nat.blt pc 60 then
              (bif Nat.blt pc 58 then
                (bif Nat.beq pc 55 then some (.getfield 83, 10, 28, 1, 0) else none)
              else
                bif Nat.blt pc 59 then
                  (bif Nat.beq pc 58 then some (.iload_n 1, 1, 0, 0, 0) else none)
                else
                  bif Nat.beq pc 59 then some (.iconst 0, 0, 0, 0, 0) else none)
            else
              bif Nat.blt pc 62 then
                (bif Nat.blt pc 61 then
                  (bif Nat.beq pc 60 then some (.bastore, 0, 0, 0, 0) else none)
                else
                  bif Nat.beq pc 61 then some (.aload_n 0, 0, 0, 0, 0) else none)
              else
                bif Nat.blt pc 63 then
                  (bif Nat.beq pc 62 then some (.iconst 3, 0, 0, 0, 3) else none)
                else
                  bif Nat.beq pc 63 then some (.invokevirtual 168, 110, 2, 0, 0) else none)
        else
          bif Nat.blt pc 77 then
            (bif Nat.blt pc 71 then
              (bif Nat.blt pc 67 then
                (bif Nat.beq pc 66 then some (.aload_n 0, 0, 0, 0, 0) else none)
              else
                bif Nat.blt pc 68 then
                  (bif Nat.beq pc 67 then some (.aload_n 0, 0, 0, 0, 0) else none)
                else
                  bif Nat.beq pc 68 then some (.getfield 62, 10, 21, 1, 0) else none)
            else
              bif Nat.blt pc 73 then
                (bif Nat.blt pc 72 then
                  (bif Nat.beq pc 71 then some (.iload_n 1, 1, 0, 0, 0) else none)
                else
                  bif Nat.beq pc 72 then some (.iaload, 0, 0, 0, 0) else none)
              else
                bif Nat.blt pc 76 then
                  (bif Nat.beq pc 73 then some (.invokevirtual 174, 111, 2, 0, 0) else none)
                else
                  bif Nat.beq pc 76 then some (.iconst 4, 0, 0, 0, 4) else none)
          else
            bif Nat.blt pc 81 then
              (bif Nat.blt pc 78 then
                (bif Nat.beq pc 77 then some (.iload_n 1, 1, 0, 0, 0) else none)
              else
                bif Nat.blt pc 79 then
                  (bif Nat.beq pc 78 then some (.imul, 0, 0, 0, 0) else none)
                else
                  bif Nat.beq pc 79 then some (.istore 4, 4, 0, 0, 0) else none)
            else
              bif Nat.blt pc 84 then
                (bif Nat.blt pc 83 then
                  (bif Nat.beq pc 81 then some (.iload 4, 4, 0, 0, 0) else none)
                else
                  bif Nat.beq pc 83 then some (.iconst 4, 0, 0, 0, 4) else none)
              else
                bif Nat.blt pc 85 then
                  (bif Nat.beq pc 84 then some (.iload_n 1, 1, 0, 0, 0) else none)
                else
                  bif Nat.beq pc 85 then some (.imul, 0, 0, 0, 0) else none)
    else
      bif Nat.blt pc 137 then
        (bif Nat.blt pc 109 then
          (bif Nat.blt pc 97 then
            (bif Nat.blt pc 91 then
              (bif Nat.blt pc 87 then
                (bif Nat.beq pc 86 then some (.iconst 4, 0, 0, 0, 4) else none)
              else
                bif Nat.blt pc 88 then
                  (bif Nat.beq pc 87 then some (.iadd, 0, 0, 0, 0) else none)
                else
                  bif Nat.beq pc 88 then some (.if_icmp .ge (121), 209, 0, 0, 0) else none)
            else
              bif Nat.blt pc 92 then
                (bif Nat.beq pc 91 then some (.aload_n 0, 0, 0, 0, 0) else none)
              else
                bif Nat.blt pc 95 then
                  (bif Nat.beq pc 92 then some (.getfield 56, 10, 19, 1, 0) else none)
                else
                  bif Nat.beq pc 95 then some (.iload 4, 4, 0, 0, 0) else none)
          else
            bif Nat.blt pc 102 then
              (bif Nat.blt pc 98 then
                (bif Nat.beq pc 97 then some (.baload, 0, 0, 0, 0) else none)
              else
                bif Nat.blt pc 101 then
                  (bif Nat.beq pc 98 then some (.ifCond .eq (105), 203, 0, 0, 0) else none)
                else
                  bif Nat.beq pc 101 then some (.aload_n 0, 0, 0, 0, 0) else none)
            else
              bif Nat.blt pc 104 then
                (bif Nat.blt pc 103 then
                  (bif Nat.beq pc 102 then some (.iconst 2, 0, 0, 0, 2) else none)
                else
                  bif Nat.beq pc 103 then some (.aload_n 0, 0, 0, 0, 0) else none)
              else
                bif Nat.blt pc 106 then
                  (bif Nat.beq pc 104 then some (.iload 4, 4, 0, 0, 0) else none)
                else
                  bif Nat.beq pc 106 then some (.invokevirtual 152, 106, 2, 1, 0) else none)
        else
          bif Nat.blt pc 125 then
            (bif Nat.blt pc 116 then
              (bif Nat.blt pc 112 then
                (bif Nat.beq pc 109 then some (.invokestatic 165, 109, 1, 1, 0) else none)
              else
                bif Nat.blt pc 113 then
                  (bif Nat.beq pc 112 then some (.iadd, 0, 0, 0, 0) else none)
                else
                  bif Nat.beq pc 113 then some (.invokevirtual 190, 112, 2, 1, 0) else none)
            else
              bif Nat.blt pc 120 then
                (bif Nat.blt pc 119 then
                  (bif Nat.beq pc 116 then some (.ifCond .eq (87), 203, 0, 0, 0) else none)
                else
                  bif Nat.beq pc 119 then some (.aload_n 0, 0, 0, 0, 0) else none)
              else
                bif Nat.blt pc 123 then
                  (bif Nat.beq pc 120 then some (.getfield 50, 10, 17, 1, 0) else none)
                else
                  bif Nat.beq pc 123 then some (.iload 4, 4, 0, 0, 0) else none)
          else
            bif Nat.blt pc 131 then
              (bif Nat.blt pc 126 then
                (bif Nat.beq pc 125 then some (.aload_n 0, 0, 0, 0, 0) else none)
              else
                bif Nat.blt pc 128 then
                  (bif Nat.beq pc 126 then some (.iload 4, 4, 0, 0, 0) else none)
                else
                  bif Nat.beq pc 128 then some (.invokevirtual 152, 106, 2, 1, 0) else none)
            else
              bif Nat.blt pc 133 then
                (bif Nat.blt pc 132 then
                  (bif Nat.beq pc 131 then some (.iastore, 0, 0, 0, 0) else none)
                else
                  bif Nat.beq pc 132 then some (.aload_n 0, 0, 0, 0, 0) else none)
              else
                bif Nat.blt pc 136 then
                  (bif Nat.beq pc 133 then some (.getfield 107, 10, 36, 1, 0) else none)
                else
                  bif Nat.beq pc 136 then some (.iconst 4, 0, 0, 0, 4) else none)
      else
        bif Nat.blt pc 154 then
          (bif Nat.blt pc 144 then
            (bif Nat.blt pc 141 then
              (bif Nat.blt pc 138 then
                (bif Nat.beq pc 137 then some (.iload_n 2, 2, 0, 0, 0) else none)
              else
                bif Nat.blt pc 139 then
                  (bif Nat.beq pc 138 then some (.imul, 0, 0, 0, 0) else none)
                else
                  bif Nat.beq pc 139 then some (.iload 4, 4, 0, 0, 0) else none)
            else
              bif Nat.blt pc 142 then
                (bif Nat.beq pc 141 then some (.iconst 3, 0, 0, 0, 3) else none)
              else
                bif Nat.blt pc 143 then
                  (bif Nat.beq pc 142 then some (.iand, 0, 0, 0, 0) else none)
                else
                  bif Nat.beq pc 143 then some (.iadd, 0, 0, 0, 0) else none)
          else
            bif Nat.blt pc 149 then
              (bif Nat.blt pc 145 then
                (bif Nat.beq pc 144 then some (.aload_n 0, 0, 0, 0, 0) else none)
              else
                bif Nat.blt pc 148 then
                  (bif Nat.beq pc 145 then some (.getfield 107, 10, 36, 1, 0) else none)
                else
                  bif Nat.beq pc 148 then some (.iconst 4, 0, 0, 0, 4) else none)
            else
              bif Nat.blt pc 151 then
                (bif Nat.blt pc 150 then
                  (bif Nat.beq pc 149 then some (.iload_n 2, 2, 0, 0, 0) else none)
                else
                  bif Nat.beq pc 150 then some (.imul, 0, 0, 0, 0) else none)
              else
                bif Nat.blt pc 153 then
                  (bif Nat.beq pc 151 then some (.iload 4, 4, 0, 0, 0) else none)
                else
                  bif Nat.beq pc 153 then some (.iconst 3, 0, 0, 0, 3) else none)
        else
          bif Nat.blt pc 164 then
            (bif Nat.blt pc 157 then
              (bif Nat.blt pc 155 then
                (bif Nat.beq pc 154 then some (.iand, 0, 0, 0, 0) else none)
              else
                bif Nat.blt pc 156 then
                  (bif Nat.beq pc 155 then some (.iadd, 0, 0, 0, 0) else none)
                else
                  bif Nat.beq pc 156 then some (.iaload, 0, 0, 0, 0) else none)
            else
              bif Nat.blt pc 161 then
                (bif Nat.blt pc 158 then
                  (bif Nat.beq pc 157 then some (.aload_n 0, 0, 0, 0, 0) else none)
                else
                  bif Nat.beq pc 158 then some (.getfield 50, 10, 17, 1, 0) else none)
              else
                bif Nat.blt pc 163 then
                  (bif Nat.beq pc 161 then some (.iload 4, 4, 0, 0, 0) else none)
                else
                  bif Nat.beq pc 163 then some (.iaload, 0, 0, 0, 0) else none)
          else
            bif Nat.blt pc 168 then
              (bif Nat.blt pc 165 then
                (bif Nat.beq pc 164 then some (.iconst 1, 0, 0, 0, 1) else none)
              else
                bif Nat.blt pc 166 then
                  (bif Nat.beq pc 165 then some (.iadd, 0, 0, 0, 0) else none)
                else
                  bif Nat.beq pc 166 then some (.bipush 13, 0, 0, 0, 13) else none)
            else
              bif Nat.blt pc 170 then
                (bif Nat.blt pc 169 then
                  (bif Nat.beq pc 168 then some (.ishl, 0, 0, 0, 0) else none)
                else
                  bif Nat.beq pc 169 then some (.ior, 0, 0, 0, 0) else none)
              else
                bif Nat.blt pc 171 then
                  (bif Nat.beq pc 170 then some (.iastore, 0, 0, 0, 0) else none)
                else
                  bif Nat.beq pc 171 then some (.aload_n 0, 0, 0, 0, 0) else none)
  else
    bif Nat.blt pc 267 then
      (bif Nat.blt pc 218 then
        (bif Nat.blt pc 193 then
          (bif Nat.blt pc 181 then
            (bif Nat.blt pc 178 then
              (bif Nat.blt pc 175 then
                (bif Nat.beq pc 172 then some (.getfield 56, 10, 19, 1, 0) else none)
              else
                bif Nat.blt pc 177 then
                  (bif Nat.beq pc 175 then some (.iload 4, 4, 0, 0, 0) else none)
                else
                  bif Nat.beq pc 177 then some (.iconst 0, 0, 0, 0, 0) else none)
            else
              bif Nat.blt pc 179 then
                (bif Nat.beq pc 178 then some (.bastore, 0, 0, 0, 0) else none)
              else
                bif Nat.blt pc 180 then
                  (bif Nat.beq pc 179 then some (.aload_n 0, 0, 0, 0, 0) else none)
                else
                  bif Nat.beq pc 180 then some (.iconst 4, 0, 0, 0, 4) else none)
          else
            bif Nat.blt pc 187 then
              (bif Nat.blt pc 184 then
                (bif Nat.beq pc 181 then some (.invokevirtual 168, 110, 2, 0, 0) else none)
              else
                bif Nat.blt pc 185 then
                  (bif Nat.beq pc 184 then some (.aload_n 0, 0, 0, 0, 0) else none)
                else
                  bif Nat.beq pc 185 then some (.iload 4, 4, 0, 0, 0) else none)
            else
              bif Nat.blt pc 189 then
                (bif Nat.blt pc 188 then
                  (bif Nat.beq pc 187 then some (.iconst 3, 0, 0, 0, 3) else none)
                else
                  bif Nat.beq pc 188 then some (.iand, 0, 0, 0, 0) else none)
              else
                bif Nat.blt pc 192 then
                  (bif Nat.beq pc 189 then some (.invokevirtual 168, 110, 2, 0, 0) else none)
                else
                  bif Nat.beq pc 192 then some (.aload_n 0, 0, 0, 0, 0) else none)
        else
          bif Nat.blt pc 209 then
            (bif Nat.blt pc 199 then
              (bif Nat.blt pc 194 then
                (bif Nat.beq pc 193 then some (.aload_n 0, 0, 0, 0, 0) else none)
              else
                bif Nat.blt pc 197 then
                  (bif Nat.beq pc 194 then some (.getfield 50, 10, 17, 1, 0) else none)
                else
                  bif Nat.beq pc 197 then some (.iload 4, 4, 0, 0, 0) else none)
            else
              bif Nat.blt pc 203 then
                (bif Nat.blt pc 200 then
                  (bif Nat.beq pc 199 then some (.iaload, 0, 0, 0, 0) else none)
                else
                  bif Nat.beq pc 200 then some (.invokevirtual 174, 111, 2, 0, 0) else none)
              else
                bif Nat.blt pc 206 then
                  (bif Nat.beq pc 203 then some (.iinc 4 1, 4, 0, 0, 1) else none)
                else
                  bif Nat.beq pc 206 then some (.goto (-125), 81, 0, 0, 0) else none)
          else
            bif Nat.blt pc 212 then
              (bif Nat.blt pc 210 then
                (bif Nat.beq pc 209 then some (.iconst 4, 0, 0, 0, 4) else none)
              else
                bif Nat.blt pc 211 then
                  (bif Nat.beq pc 210 then some (.iload_n 1, 1, 0, 0, 0) else none)
                else
                  bif Nat.beq pc 211 then some (.imul, 0, 0, 0, 0) else none)
            else
              bif Nat.blt pc 216 then
                (bif Nat.blt pc 214 then
                  (bif Nat.beq pc 212 then some (.istore 4, 4, 0, 0, 0) else none)
                else
                  bif Nat.beq pc 214 then some (.iload 4, 4, 0, 0, 0) else none)
              else
                bif Nat.blt pc 217 then
                  (bif Nat.beq pc 216 then some (.iconst 4, 0, 0, 0, 4) else none)
                else
                  bif Nat.beq pc 217 then some (.iload_n 1, 1, 0, 0, 0) else none)
      else
        bif Nat.blt pc 241 then
          (bif Nat.blt pc 228 then
            (bif Nat.blt pc 221 then
              (bif Nat.blt pc 219 then
                (bif Nat.beq pc 218 then some (.imul, 0, 0, 0, 0) else none)
              else
                bif Nat.blt pc 220 then
                  (bif Nat.beq pc 219 then some (.iconst 4, 0, 0, 0, 4) else none)
                else
                  bif Nat.beq pc 220 then some (.iadd, 0, 0, 0, 0) else none)
            else
              bif Nat.blt pc 224 then
                (bif Nat.beq pc 221 then some (.if_icmp .ge (121), 342, 0, 0, 0) else none)
              else
                bif Nat.blt pc 225 then
                  (bif Nat.beq pc 224 then some (.aload_n 0, 0, 0, 0, 0) else none)
                else
                  bif Nat.beq pc 225 then some (.getfield 35, 10, 12, 1, 0) else none)
          else
            bif Nat.blt pc 234 then
              (bif Nat.blt pc 230 then
                (bif Nat.beq pc 228 then some (.iload 4, 4, 0, 0, 0) else none)
              else
                bif Nat.blt pc 231 then
                  (bif Nat.beq pc 230 then some (.baload, 0, 0, 0, 0) else none)
                else
                  bif Nat.beq pc 231 then some (.ifCond .eq (105), 336, 0, 0, 0) else none)
            else
              bif Nat.blt pc 238 then
                (bif Nat.blt pc 235 then
                  (bif Nat.beq pc 234 then some (.aload_n 0, 0, 0, 0, 0) else none)
                else
                  bif Nat.beq pc 235 then some (.getfield 25, 10, 9, 1, 0) else none)
              else
                bif Nat.blt pc 240 then
                  (bif Nat.beq pc 238 then some (.iload 4, 4, 0, 0, 0) else none)
                else
                  bif Nat.beq pc 240 then some (.iaload, 0, 0, 0, 0) else none)
        else
          bif Nat.blt pc 255 then
            (bif Nat.blt pc 248 then
              (bif Nat.blt pc 244 then
                (bif Nat.beq pc 241 then some (.ifCond .eq (14), 255, 0, 0, 0) else none)
              else
                bif Nat.blt pc 245 then
                  (bif Nat.beq pc 244 then some (.aload_n 0, 0, 0, 0, 0) else none)
                else
                  bif Nat.beq pc 245 then some (.getfield 25, 10, 9, 1, 0) else none)
            else
              bif Nat.blt pc 251 then
                (bif Nat.blt pc 250 then
                  (bif Nat.beq pc 248 then some (.iload 4, 4, 0, 0, 0) else none)
                else
                  bif Nat.beq pc 250 then some (.iaload, 0, 0, 0, 0) else none)
              else
                bif Nat.blt pc 252 then
                  (bif Nat.beq pc 251 then some (.iconst 2, 0, 0, 0, 2) else none)
                else
                  bif Nat.beq pc 252 then some (.if_icmp .ne (84), 336, 0, 0, 0) else none)
          else
            bif Nat.blt pc 258 then
              (bif Nat.blt pc 256 then
                (bif Nat.beq pc 255 then some (.aload_n 0, 0, 0, 0, 0) else none)
              else
                bif Nat.blt pc 257 then
                  (bif Nat.beq pc 256 then some (.iconst 2, 0, 0, 0, 2) else none)
                else
                  bif Nat.beq pc 257 then some (.aload_n 0, 0, 0, 0, 0) else none)
            else
              bif Nat.blt pc 263 then
                (bif Nat.blt pc 261 then
                  (bif Nat.beq pc 258 then some (.getfield 19, 10, 7, 1, 0) else none)
                else
                  bif Nat.beq pc 261 then some (.iload 4, 4, 0, 0, 0) else none)
              else
                bif Nat.blt pc 264 then
                  (bif Nat.beq pc 263 then some (.iaload, 0, 0, 0, 0) else none)
                else
                  bif Nat.beq pc 264 then some (.invokestatic 165, 109, 1, 1, 0) else none)
    else
      bif Nat.blt pc 307 then
        (bif Nat.blt pc 289 then
          (bif Nat.blt pc 280 then
            (bif Nat.blt pc 274 then
              (bif Nat.blt pc 268 then
                (bif Nat.beq pc 267 then some (.iadd, 0, 0, 0, 0) else none)
              else
                bif Nat.blt pc 271 then
                  (bif Nat.beq pc 268 then some (.invokevirtual 190, 112, 2, 1, 0) else none)
                else
                  bif Nat.beq pc 271 then some (.ifCond .eq (65), 336, 0, 0, 0) else none)
            else
              bif Nat.blt pc 275 then
                (bif Nat.beq pc 274 then some (.aload_n 0, 0, 0, 0, 0) else none)
              else
                bif Nat.blt pc 278 then
                  (bif Nat.beq pc 275 then some (.getfield 25, 10, 9, 1, 0) else none)
                else
                  bif Nat.beq pc 278 then some (.iload 4, 4, 0, 0, 0) else none)
          else
            bif Nat.blt pc 283 then
              (bif Nat.blt pc 281 then
                (bif Nat.beq pc 280 then some (.iconst 1, 0, 0, 0, 1) else none)
              else
                bif Nat.blt pc 282 then
                  (bif Nat.beq pc 281 then some (.iastore, 0, 0, 0, 0) else none)
                else
                  bif Nat.beq pc 282 then some (.aload_n 0, 0, 0, 0, 0) else none)
            else
              bif Nat.blt pc 287 then
                (bif Nat.blt pc 286 then
                  (bif Nat.beq pc 283 then some (.getfield 107, 10, 36, 1, 0) else none)
                else
                  bif Nat.beq pc 286 then some (.iconst 4, 0, 0, 0, 4) else none)
              else
                bif Nat.blt pc 288 then
                  (bif Nat.beq pc 287 then some (.iload_n 2, 2, 0, 0, 0) else none)
                else
                  bif Nat.beq pc 288 then some (.imul, 0, 0, 0, 0) else none)
        else
          bif Nat.blt pc 299 then
            (bif Nat.blt pc 293 then
              (bif Nat.blt pc 291 then
                (bif Nat.beq pc 289 then some (.iload 4, 4, 0, 0, 0) else none)
              else
                bif Nat.blt pc 292 then
                  (bif Nat.beq pc 291 then some (.iconst 3, 0, 0, 0, 3) else none)
                else
                  bif Nat.beq pc 292 then some (.iand, 0, 0, 0, 0) else none)
            else
              bif Nat.blt pc 295 then
                (bif Nat.blt pc 294 then
                  (bif Nat.beq pc 293 then some (.iadd, 0, 0, 0, 0) else none)
                else
                  bif Nat.beq pc 294 then some (.aload_n 0, 0, 0, 0, 0) else none)
              else
                bif Nat.blt pc 298 then
                  (bif Nat.beq pc 295 then some (.getfield 107, 10, 36, 1, 0) else none)
                else
                  bif Nat.beq pc 298 then some (.iconst 4, 0, 0, 0, 4) else none)
          else
            bif Nat.blt pc 303 then
              (bif Nat.blt pc 300 then
                (bif Nat.beq pc 299 then some (.iload_n 2, 2, 0, 0, 0) else none)
              else
                bif Nat.blt pc 301 then
                  (bif Nat.beq pc 300 then some (.imul, 0, 0, 0, 0) else none)
                else
                  bif Nat.beq pc 301 then some (.iload 4, 4, 0, 0, 0) else none)
            else
              bif Nat.blt pc 305 then
                (bif Nat.blt pc 304 then
                  (bif Nat.beq pc 303 then some (.iconst 3, 0, 0, 0, 3) else none)
                else
                  bif Nat.beq pc 304 then some (.iand, 0, 0, 0, 0) else none)
              else
                bif Nat.blt pc 306 then
                  (bif Nat.beq pc 305 then some (.iadd, 0, 0, 0, 0) else none)
                else
                  bif Nat.beq pc 306 then some (.iaload, 0, 0, 0, 0) else none)
      else
        bif Nat.blt pc 327 then
          (bif Nat.blt pc 317 then
            (bif Nat.blt pc 312 then
              (bif Nat.blt pc 310 then
                (bif Nat.beq pc 307 then some (.sipush 4096, 0, 0, 0, 4096) else none)
              else
                bif Nat.blt pc 311 then
                  (bif Nat.beq pc 310 then some (.ior, 0, 0, 0, 0) else none)
                else
                  bif Nat.beq pc 311 then some (.iastore, 0, 0, 0, 0) else none)
            else
              bif Nat.blt pc 313 then
                (bif Nat.beq pc 312 then some (.aload_n 0, 0, 0, 0, 0) else none)
              else
                bif Nat.blt pc 314 then
                  (bif Nat.beq pc 313 then some (.iconst 5, 0, 0, 0, 5) else none)
                else
                  bif Nat.beq pc 314 then some (.invokevirtual 168, 110, 2, 0, 0) else none)
          else
            bif Nat.blt pc 321 then
              (bif Nat.blt pc 318 then
                (bif Nat.beq pc 317 then some (.aload_n 0, 0, 0, 0, 0) else none)
              else
                bif Nat.blt pc 320 then
                  (bif Nat.beq pc 318 then some (.iload 4, 4, 0, 0, 0) else none)
                else
                  bif Nat.beq pc 320 then some (.iconst 3, 0, 0, 0, 3) else none)
            else
              bif Nat.blt pc 325 then
                (bif Nat.blt pc 322 then
                  (bif Nat.beq pc 321 then some (.iand, 0, 0, 0, 0) else none)
                else
                  bif Nat.beq pc 322 then some (.invokevirtual 168, 110, 2, 0, 0) else none)
              else
                bif Nat.blt pc 326 then
                  (bif Nat.beq pc 325 then some (.aload_n 0, 0, 0, 0, 0) else none)
                else
                  bif Nat.beq pc 326 then some (.aload_n 0, 0, 0, 0, 0) else none)
        else
          bif Nat.blt pc 343 then
            (bif Nat.blt pc 333 then
              (bif Nat.blt pc 330 then
                (bif Nat.beq pc 327 then some (.getfield 19, 10, 7, 1, 0) else none)
              else
                bif Nat.blt pc 332 then
                  (bif Nat.beq pc 330 then some (.iload 4, 4, 0, 0, 0) else none)
                else
                  bif Nat.beq pc 332 then some (.iaload, 0, 0, 0, 0) else none)
            else
              bif Nat.blt pc 339 then
                (bif Nat.blt pc 336 then
                  (bif Nat.beq pc 333 then some (.invokevirtual 174, 111, 2, 0, 0) else none)
                else
                  bif Nat.beq pc 336 then some (.iinc 4 1, 4, 0, 0, 1) else none)
              else
                bif Nat.blt pc 342 then
                  (bif Nat.beq pc 339 then some (.goto (-125), 214, 0, 0, 0) else none)
                else
                  bif Nat.beq pc 342 then some (.aload_n 0, 0, 0, 0, 0) else none)
          else
            bif Nat.blt pc 350 then
              (bif Nat.blt pc 346 then
                (bif Nat.beq pc 343 then some (.getfield 162, 10, 44, 0, 0) else none)
              else
                bif Nat.blt pc 347 then
                  (bif Nat.beq pc 346 then some (.iload_n 3, 3, 0, 0, 0) else none)
                else
                  bif Nat.beq pc 347 then some (.if_icmp .le (7), 354, 0, 0, 0) else none)
            else
              bif Nat.blt pc 354 then
                (bif Nat.blt pc 351 then
                  (bif Nat.beq pc 350 then some (.iconst 1, 0, 0, 0, 1) else none)
                else
                  bif Nat.beq pc 351 then some (.goto 4, 355, 0, 0, 0) else none)
              else
                bif Nat.blt pc 355 then
                  (bif Nat.beq pc 354 then some (.iconst 0, 0, 0, 0, 0) else none)
                else
                  bif Nat.beq pc 355 then some (.ireturn, 0, 0, 1, 0) else none
def i_M_putSmall : Nat → Option Ent := ab_tab 356 t_M_putSmall
def h_M_putSmall (pc : Nat) : Nat × List Bool := bif Nat.beq pc 76 then (1, [true, true, true, true, false]) else bif Nat.beq pc 81 then (1, [true, true, true, true, true]) else bif Nat.beq pc 203 then (1, [true, true, true, true, true]) else bif Nat.beq pc 214 then (1, [true, true, true, true, true]) else bif Nat.beq pc 255 then (1, [true, true, true, true, true]) else bif Nat.beq pc 336 then (1, [true, true, true, true, true]) else (0, [])
def s_M_putSmall (pc : Nat) : List (Int32 × Nat) × Nat := ([], 0)
noncomputable def eV_M_putSmall : Nat → List AV → Mm → Option Mm := ab_ev [(110, c_M_put), (111, c_M_putNumber)]
noncomputable def eI_M_putSmall : Nat → List AV → Mm → Option (Int32 × Mm) := ab_ev [(107, c_M_allTarget), (109, c_M_width), (112, c_M_fits), (106, c_M_streamTarget)]
noncomputable def b_M_putSmall_0 (f : Nat) (v0 : Nat) (v1 : Int32) (v2 : Int32) (m : Mm) : Option Rs := ab_ex KT none s_M_putSmall eV_M_putSmall eI_M_putSmall i_M_putSmall h_M_putSmall f 0 [some (.inr (.inr (28, some v0))), some (.inl v1), some (.inl v2), none, none] [] m
noncomputable def b_M_putSmall_76 (f : Nat) (v0 : Nat) (v1 : Int32) (v2 : Int32) (v3 : Int32) (m : Mm) : Option Rs := ab_ex KT none s_M_putSmall eV_M_putSmall eI_M_putSmall i_M_putSmall h_M_putSmall f 76 [some (.inr (.inr (28, some v0))), some (.inl v1), some (.inl v2), some (.inl v3), none] [] m
noncomputable def b_M_putSmall_81 (f : Nat) (v0 : Nat) (v1 : Int32) (v2 : Int32) (v3 : Int32) (v4 : Int32) (m : Mm) : Option Rs := ab_ex KT none s_M_putSmall eV_M_putSmall eI_M_putSmall i_M_putSmall h_M_putSmall f 81 [some (.inr (.inr (28, some v0))), some (.inl v1), some (.inl v2), some (.inl v3), some (.inl v4)] [] m
noncomputable def b_M_putSmall_203 (f : Nat) (v0 : Nat) (v1 : Int32) (v2 : Int32) (v3 : Int32) (v4 : Int32) (m : Mm) : Option Rs := ab_ex KT none s_M_putSmall eV_M_putSmall eI_M_putSmall i_M_putSmall h_M_putSmall f 203 [some (.inr (.inr (28, some v0))), some (.inl v1), some (.inl v2), some (.inl v3), some (.inl v4)] [] m
noncomputable def b_M_putSmall_214 (f : Nat) (v0 : Nat) (v1 : Int32) (v2 : Int32) (v3 : Int32) (v4 : Int32) (m : Mm) : Option Rs := ab_ex KT none s_M_putSmall eV_M_putSmall eI_M_putSmall i_M_putSmall h_M_putSmall f 214 [some (.inr (.inr (28, some v0))), some (.inl v1), some (.inl v2), some (.inl v3), some (.inl v4)] [] m
noncomputable def b_M_putSmall_255 (f : Nat) (v0 : Nat) (v1 : Int32) (v2 : Int32) (v3 : Int32) (v4 : Int32) (m : Mm) : Option Rs := ab_ex KT none s_M_putSmall eV_M_putSmall eI_M_putSmall i_M_putSmall h_M_putSmall f 255 [some (.inr (.inr (28, some v0))), some (.inl v1), some (.inl v2), some (.inl v3), some (.inl v4)] [] m
noncomputable def b_M_putSmall_336 (f : Nat) (v0 : Nat) (v1 : Int32) (v2 : Int32) (v3 : Int32) (v4 : Int32) (m : Mm) : Option Rs := ab_ex KT none s_M_putSmall eV_M_putSmall eI_M_putSmall i_M_putSmall h_M_putSmall f 336 [some (.inr (.inr (28, some v0))), some (.inl v1), some (.inl v2), some (.inl v3), some (.inl v4)] [] m
set_option maxRecDepth 100000 in
set_option maxHeartbeats 4000000 in
theorem b_M_putSmall_0_eq (f : Nat) (v0 : Nat) (v1 : Int32) (v2 : Int32) (m : Mm) : b_M_putSmall_0 (f + 1) v0 v1 v2 m =
    ab_let ((m.1 125 v0 0)) fun x1 =>
    (ab_ix v1 2).bind fun i2 =>
    if (m.1 157 (v0 + 25) i2) = 0 then
      b_M_putSmall_76 f v0 v1 v2 x1 m
    else
      (r_M_allTarget v0 v1 m).bind fun z3 =>
      (r_M_width z3.1 z3.2).bind fun z4 =>
      (r_M_fits v0 ((1 : Int32) + z4.1) z4.2).bind fun z5 =>
      if z5.1 = 0 then
        b_M_putSmall_76 f v0 v1 v2 x1 z5.2
      else
        (r_M_allTarget v0 v1 z5.2).bind fun z6 =>
        (ab_ix v1 2).bind fun i7 =>
        ab_let (ab_uI z6.2 150 (v0 + 18) i7 z6.1) fun m8 =>
        (ab_ix v1 2).bind fun i9 =>
        (ab_ix v2 1120).bind fun i10 =>
        ab_let (ab_uI m8 164 (v0 + 32) i10 (m8.1 150 (v0 + 18) i9)) fun m11 =>
        (ab_ix v1 2).bind fun i12 =>
        (ab_bo (0 : Int32)).bind fun y14 =>
        ab_let (ab_uI m11 157 (v0 + 25) i12 y14) fun m13 =>
        (r_M_put v0 (3 : Int32) m13).bind fun m15 =>
        (ab_ix v1 2).bind fun i16 =>
        (r_M_putNumber v0 (m15.1 150 (v0 + 18) i16) m15).bind fun m17 =>
        b_M_putSmall_76 f v0 v1 v2 x1 m17 := rfl
set_option maxRecDepth 100000 in
set_option maxHeartbeats 4000000 in
theorem b_M_putSmall_76_eq (f : Nat) (v0 : Nat) (v1 : Int32) (v2 : Int32) (v3 : Int32) (m : Mm) : b_M_putSmall_76 (f + 1) v0 v1 v2 v3 m =
    ab_let (((4 : Int32) * v1)) fun x1 =>
    b_M_putSmall_81 f v0 v1 v2 v3 x1 m := rfl
set_option maxRecDepth 100000 in
set_option maxHeartbeats 4000000 in
theorem b_M_putSmall_81_eq (f : Nat) (v0 : Nat) (v1 : Int32) (v2 : Int32) (v3 : Int32) (v4 : Int32) (m : Mm) : b_M_putSmall_81 (f + 1) v0 v1 v2 v3 v4 m =
    if (((4 : Int32) * v1) + (4 : Int32)) ≤ v4 then
      ab_let (((4 : Int32) * v1)) fun x1 =>
      b_M_putSmall_214 f v0 v1 v2 v3 x1 m
    else
      (ab_ix v4 8).bind fun i2 =>
      if (m.1 148 (v0 + 16) i2) = 0 then
        b_M_putSmall_203 f v0 v1 v2 v3 v4 m
      else
        (r_M_streamTarget v0 v4 m).bind fun z3 =>
        (r_M_width z3.1 z3.2).bind fun z4 =>
        (r_M_fits v0 ((2 : Int32) + z4.1) z4.2).bind fun z5 =>
        if z5.1 = 0 then
          b_M_putSmall_203 f v0 v1 v2 v3 v4 z5.2
        else
          (r_M_streamTarget v0 v4 z5.2).bind fun z6 =>
          (ab_ix v4 8).bind fun i7 =>
          ab_let (ab_uI z6.2 146 (v0 + 14) i7 z6.1) fun m8 =>
          (ab_ix (((4 : Int32) * v2) + (v4 &&& (3 : Int32))) 4480).bind fun i9 =>
          (ab_ix v4 8).bind fun i10 =>
          (ab_ix (((4 : Int32) * v2) + (v4 &&& (3 : Int32))) 4480).bind fun i11 =>
          ab_let (ab_uI m8 165 (v0 + 33) i11 ((m8.1 165 (v0 + 33) i9) ||| (((m8.1 146 (v0 + 14) i10) + (1 : Int32)) <<< ((13 : Int32) &&& 31)))) fun m12 =>
          (ab_ix v4 8).bind fun i13 =>
          (ab_bo (0 : Int32)).bind fun y15 =>
          ab_let (ab_uI m12 148 (v0 + 16) i13 y15) fun m14 =>
          (r_M_put v0 (4 : Int32) m14).bind fun m16 =>
          (r_M_put v0 (v4 &&& (3 : Int32)) m16).bind fun m17 =>
          (ab_ix v4 8).bind fun i18 =>
          (r_M_putNumber v0 (m17.1 146 (v0 + 14) i18) m17).bind fun m19 =>
          b_M_putSmall_203 f v0 v1 v2 v3 v4 m19 := rfl
set_option maxRecDepth 100000 in
set_option maxHeartbeats 4000000 in
theorem b_M_putSmall_203_eq (f : Nat) (v0 : Nat) (v1 : Int32) (v2 : Int32) (v3 : Int32) (v4 : Int32) (m : Mm) : b_M_putSmall_203 (f + 1) v0 v1 v2 v3 v4 m =
    ab_let (v4 + (1 : Int32)) fun x1 =>
    b_M_putSmall_81 f v0 v1 v2 v3 x1 m := rfl
set_option maxRecDepth 100000 in
set_option maxHeartbeats 4000000 in
theorem b_M_putSmall_214_eq (f : Nat) (v0 : Nat) (v1 : Int32) (v2 : Int32) (v3 : Int32) (v4 : Int32) (m : Mm) : b_M_putSmall_214 (f + 1) v0 v1 v2 v3 v4 m =
    if (((4 : Int32) * v1) + (4 : Int32)) ≤ v4 then
      if (m.1 125 v0 0) ≤ v3 then
        (ab_bo (0 : Int32)).bind fun y1 => some (.inl (some (.inl y1), m))
      else
        (ab_bo (1 : Int32)).bind fun y2 => some (.inl (some (.inl y2), m))
    else
      (ab_ix v4 8).bind fun i3 =>
      if (m.1 141 (v0 + 9) i3) = 0 then
        b_M_putSmall_336 f v0 v1 v2 v3 v4 m
      else
        (ab_ix v4 8).bind fun i4 =>
        if (m.1 138 (v0 + 6) i4) = 0 then
          b_M_putSmall_255 f v0 v1 v2 v3 v4 m
        else
          (ab_ix v4 8).bind fun i5 =>
          if (m.1 138 (v0 + 6) i5) = (2 : Int32) then
            b_M_putSmall_255 f v0 v1 v2 v3 v4 m
          else
            b_M_putSmall_336 f v0 v1 v2 v3 v4 m := rfl
set_option maxRecDepth 100000 in
set_option maxHeartbeats 4000000 in
theorem b_M_putSmall_255_eq (f : Nat) (v0 : Nat) (v1 : Int32) (v2 : Int32) (v3 : Int32) (v4 : Int32) (m : Mm) : b_M_putSmall_255 (f + 1) v0 v1 v2 v3 v4 m =
    (ab_ix v4 8).bind fun i1 =>
    (r_M_width (m.1 136 (v0 + 4) i1) m).bind fun z2 =>
    (r_M_fits v0 ((2 : Int32) + z2.1) z2.2).bind fun z3 =>
    if z3.1 = 0 then
      b_M_putSmall_336 f v0 v1 v2 v3 v4 z3.2
    else
      (ab_ix v4 8).bind fun i4 =>
      ab_let (ab_uI z3.2 138 (v0 + 6) i4 (1 : Int32)) fun m5 =>
      (ab_ix (((4 : Int32) * v2) + (v4 &&& (3 : Int32))) 4480).bind fun i6 =>
      (ab_ix (((4 : Int32) * v2) + (v4 &&& (3 : Int32))) 4480).bind fun i7 =>
      ab_let (ab_uI m5 165 (v0 + 33) i7 ((m5.1 165 (v0 + 33) i6) ||| (4096 : Int32))) fun m8 =>
      (r_M_put v0 (5 : Int32) m8).bind fun m9 =>
      (r_M_put v0 (v4 &&& (3 : Int32)) m9).bind fun m10 =>
      (ab_ix v4 8).bind fun i11 =>
      (r_M_putNumber v0 (m10.1 136 (v0 + 4) i11) m10).bind fun m12 =>
      b_M_putSmall_336 f v0 v1 v2 v3 v4 m12 := rfl
set_option maxRecDepth 100000 in
set_option maxHeartbeats 4000000 in
theorem b_M_putSmall_336_eq (f : Nat) (v0 : Nat) (v1 : Int32) (v2 : Int32) (v3 : Int32) (v4 : Int32) (m : Mm) : b_M_putSmall_336 (f + 1) v0 v1 v2 v3 v4 m =
    ab_let (v4 + (1 : Int32)) fun x1 =>
    b_M_putSmall_214 f v0 v1 v2 v3 x1 m := rfl
noncomputable def r_M_putSmall : Nat → Int32 → Int32 → Mm → Option (Int32 × Mm) := ab_seal fun v0 v1 v2 m => ab_rI (b_M_putSmall_0 50000 v0 v1 v2 m)
theorem r_M_putSmall_eq (v0 : Nat) (v1 : Int32) (v2 : Int32) (m : Mm) : r_M_putSmall v0 v1 v2 m = ab_rI (b_M_putSmall_0 50000 v0 v1 v2 m) := by
  unfold r_M_putSmall
  rw [ab_seal_eq]
noncomputable def c_M_putSmall : List AV → Mm → Option (Int32 × Mm) := fun av m => match av with
  | [.inr (.inr (kv0, ov0)), .inl v1, .inl v2] => if kv0 = 28 then (ov0.bind fun v0 => r_M_putSmall v0 v1 v2 m) else none
  | _ => none
theorem c_M_putSmall_inv {av : List AV} {m : Mm} {r : Int32 × Mm} (h : c_M_putSmall av m = some r) : ∃ (v0 : Nat) (v1 : Int32) (v2 : Int32), av = [.inr (.inr (28, some v0)), .inl v1, .inl v2] ∧ r_M_putSmall v0 v1 v2 m = some r := by
  unfold c_M_putSmall at h
  split at h
  · rename_i kv0 ov0 v1 v2
    by_cases hkv0 : kv0 = 28
    case neg => rw [if_neg hkv0] at h; cases h
    rw [if_pos hkv0] at h
    subst hkv0
    obtain ⟨v0, hev0, h⟩ := Option.bind_eq_some_iff.mp h
    subst hev0
    exact ⟨v0, v1, v2, rfl, h⟩
  · cases h
def cs_M_putSmall : List Nat := [18, 21, 25, 38, 63, 73, 106, 109, 113, 128, 181, 189, 200, 264, 268, 314, 322, 333]
set_option maxRecDepth 100000 in
theorem E_M_putSmall : ∀ (pc : Nat) (q : Ent), i_M_putSmall pc = some q → ab_E KT CL ab_gW "StreamTransportModel" "putSmall" (some .boolean) prog_12_method_23_code s_M_putSmall 5 pc q.1 q.2.1 q.2.2.1 q.2.2.2.1 q.2.2.2.2 := fun pc q hq =>
  ab_Eb_ok lc_M lj_M fl_M (fpn_M "putSmall") nw_M na_M nq_M (ab_tab_all (t := t_M_putSmall) (chk := fun pc q => ab_Eb (some .boolean) prog_12_method_23_code s_M_putSmall 5 LC_M LJ_M FL_M FPn_M NW_M NA_M NQ_M pc q.1 q.2.1 q.2.2.1 q.2.2.2.1 q.2.2.2.2) (by decide +kernel) hq)
set_option maxRecDepth 100000 in
theorem kp_M_putSmall {av : List AV} {m : Mm} {r : Int32 × Mm} (h : c_M_putSmall av m = some r) : ab_kp m r.2 := by
  obtain ⟨v0, v1, v2, -, h⟩ := c_M_putSmall_inv h
  rw [r_M_putSmall_eq] at h
  have hV : ∀ a av m m', eV_M_putSmall a av m = some m' → ab_kp m m' := ab_ev_all (P := fun _ m r => ab_kp m r) [(110, c_M_put), (111, c_M_putNumber)] (List.forall_mem_cons.mpr ⟨fun av m r h => kp_M_put h, List.forall_mem_cons.mpr ⟨fun av m r h => kp_M_putNumber h, fun q hq => by cases hq⟩⟩)
  have hI : ∀ a av m q, eI_M_putSmall a av m = some q → ab_kp m q.2 := ab_ev_all (P := fun _ (m : Mm) (r : Int32 × Mm) => ab_kp m r.2) [(107, c_M_allTarget), (109, c_M_width), (112, c_M_fits), (106, c_M_streamTarget)] (List.forall_mem_cons.mpr ⟨fun av m r h => kp_M_allTarget h, List.forall_mem_cons.mpr ⟨fun av m r h => kp_M_width h, List.forall_mem_cons.mpr ⟨fun av m r h => kp_M_fits h, List.forall_mem_cons.mpr ⟨fun av m r h => kp_M_streamTarget h, fun q hq => by cases hq⟩⟩⟩⟩)
  exact ab_kprel (ρ := .inl (some (.inl r.1), r.2)) (ab_tab_isn (t := t_M_putSmall) (by decide +kernel)) hV hI (ab_rI_inv h)
set_option maxRecDepth 100000 in
theorem cl_M_putSmall (l : Launch) : ∀ (pc : Nat) (q : Ent), i_M_putSmall pc = some q → ab_inv q.1 = true → ab_CR l KT CL none ab_gW "StreamTransportModel" prog_12_method_23_code 5 2 43 eV_M_putSmall eI_M_putSmall pc q := by
  intro pc q hq hi
  have hm : pc ∈ cs_M_putSmall := ab_tab_cs (t := t_M_putSmall) (by decide +kernel) hq hi
  simp only [cs_M_putSmall, List.mem_cons, List.not_mem_nil, or_false] at hm
  rcases hm with rfl | rfl | rfl | rfl | rfl | rfl | rfl | rfl | rfl | rfl | rfl | rfl | rfl | rfl | rfl | rfl | rfl | rfl
  · cases (Option.some.inj hq : ((.invokevirtual 159, 107, 2, 1, 0) : Ent) = q)
    exact ab_crV (C := "StreamTransportModel") (by decide +kernel) cw_M_allTarget (ab_gW_in 1182 (by decide +kernel) rfl) is_M_allTarget sl_M_allTarget (by decide) (fun av m m' h => by cases h) (fun av m r h => cm_M_allTarget l h) KT_nd
  · cases (Option.some.inj hq : ((.invokestatic 165, 109, 1, 1, 0) : Ent) = q)
    exact ab_crS (by decide +kernel) cw_M_width (ab_gW_in 1202 (by decide +kernel) rfl) st_M_width (by decide) (fun av m m' h => by cases h) (fun av m r h => cm_M_width l h) KT_nd
  · cases (Option.some.inj hq : ((.invokevirtual 190, 112, 2, 1, 0) : Ent) = q)
    exact ab_crV (C := "StreamTransportModel") (by decide +kernel) cw_M_fits (ab_gW_in 1217 (by decide +kernel) rfl) is_M_fits sl_M_fits (by decide) (fun av m m' h => by cases h) (fun av m r h => cm_M_fits l h) KT_nd
  · cases (Option.some.inj hq : ((.invokevirtual 159, 107, 2, 1, 0) : Ent) = q)
    exact ab_crV (C := "StreamTransportModel") (by decide +kernel) cw_M_allTarget (ab_gW_in 1182 (by decide +kernel) rfl) is_M_allTarget sl_M_allTarget (by decide) (fun av m m' h => by cases h) (fun av m r h => cm_M_allTarget l h) KT_nd
  · cases (Option.some.inj hq : ((.invokevirtual 168, 110, 2, 0, 0) : Ent) = q)
    exact ab_crV (C := "StreamTransportModel") (by decide +kernel) cw_M_put (ab_gW_in 1194 (by decide +kernel) rfl) is_M_put sl_M_put (by decide) (fun av m m' h => cm_M_put l h) (fun av m r h => by cases h) KT_nd
  · cases (Option.some.inj hq : ((.invokevirtual 174, 111, 2, 0, 0) : Ent) = q)
    exact ab_crV (C := "StreamTransportModel") (by decide +kernel) cw_M_putNumber (ab_gW_in 1198 (by decide +kernel) rfl) is_M_putNumber sl_M_putNumber (by decide) (fun av m m' h => cm_M_putNumber l h) (fun av m r h => by cases h) KT_nd
  · cases (Option.some.inj hq : ((.invokevirtual 152, 106, 2, 1, 0) : Ent) = q)
    exact ab_crV (C := "StreamTransportModel") (by decide +kernel) cw_M_streamTarget (ab_gW_in 1174 (by decide +kernel) rfl) is_M_streamTarget sl_M_streamTarget (by decide) (fun av m m' h => by cases h) (fun av m r h => cm_M_streamTarget l h) KT_nd
  · cases (Option.some.inj hq : ((.invokestatic 165, 109, 1, 1, 0) : Ent) = q)
    exact ab_crS (by decide +kernel) cw_M_width (ab_gW_in 1202 (by decide +kernel) rfl) st_M_width (by decide) (fun av m m' h => by cases h) (fun av m r h => cm_M_width l h) KT_nd
  · cases (Option.some.inj hq : ((.invokevirtual 190, 112, 2, 1, 0) : Ent) = q)
    exact ab_crV (C := "StreamTransportModel") (by decide +kernel) cw_M_fits (ab_gW_in 1217 (by decide +kernel) rfl) is_M_fits sl_M_fits (by decide) (fun av m m' h => by cases h) (fun av m r h => cm_M_fits l h) KT_nd
  · cases (Option.some.inj hq : ((.invokevirtual 152, 106, 2, 1, 0) : Ent) = q)
    exact ab_crV (C := "StreamTransportModel") (by decide +kernel) cw_M_streamTarget (ab_gW_in 1174 (by decide +kernel) rfl) is_M_streamTarget sl_M_streamTarget (by decide) (fun av m m' h => by cases h) (fun av m r h => cm_M_streamTarget l h) KT_nd
  · cases (Option.some.inj hq : ((.invokevirtual 168, 110, 2, 0, 0) : Ent) = q)
    exact ab_crV (C := "StreamTransportModel") (by decide +kernel) cw_M_put (ab_gW_in 1194 (by decide +kernel) rfl) is_M_put sl_M_put (by decide) (fun av m m' h => cm_M_put l h) (fun av m r h => by cases h) KT_nd
  · cases (Option.some.inj hq : ((.invokevirtual 168, 110, 2, 0, 0) : Ent) = q)
    exact ab_crV (C := "StreamTransportModel") (by decide +kernel) cw_M_put (ab_gW_in 1194 (by decide +kernel) rfl) is_M_put sl_M_put (by decide) (fun av m m' h => cm_M_put l h) (fun av m r h => by cases h) KT_nd
  · cases (Option.some.inj hq : ((.invokevirtual 174, 111, 2, 0, 0) : Ent) = q)
    exact ab_crV (C := "StreamTransportModel") (by decide +kernel) cw_M_putNumber (ab_gW_in 1198 (by decide +kernel) rfl) is_M_putNumber sl_M_putNumber (by decide) (fun av m m' h => cm_M_putNumber l h) (fun av m r h => by cases h) KT_nd
  · cases (Option.some.inj hq : ((.invokestatic 165, 109, 1, 1, 0) : Ent) = q)
    exact ab_crS (by decide +kernel) cw_M_width (ab_gW_in 1202 (by decide +kernel) rfl) st_M_width (by decide) (fun av m m' h => by cases h) (fun av m r h => cm_M_width l h) KT_nd
  · cases (Option.some.inj hq : ((.invokevirtual 190, 112, 2, 1, 0) : Ent) = q)
    exact ab_crV (C := "StreamTransportModel") (by decide +kernel) cw_M_fits (ab_gW_in 1217 (by decide +kernel) rfl) is_M_fits sl_M_fits (by decide) (fun av m m' h => by cases h) (fun av m r h => cm_M_fits l h) KT_nd
  · cases (Option.some.inj hq : ((.invokevirtual 168, 110, 2, 0, 0) : Ent) = q)
    exact ab_crV (C := "StreamTransportModel") (by decide +kernel) cw_M_put (ab_gW_in 1194 (by decide +kernel) rfl) is_M_put sl_M_put (by decide) (fun av m m' h => cm_M_put l h) (fun av m r h => by cases h) KT_nd
  · cases (Option.some.inj hq : ((.invokevirtual 168, 110, 2, 0, 0) : Ent) = q)
    exact ab_crV (C := "StreamTransportModel") (by decide +kernel) cw_M_put (ab_gW_in 1194 (by decide +kernel) rfl) is_M_put sl_M_put (by decide) (fun av m m' h => cm_M_put l h) (fun av m r h => by cases h) KT_nd
  · cases (Option.some.inj hq : ((.invokevirtual 174, 111, 2, 0, 0) : Ent) = q)
    exact ab_crV (C := "StreamTransportModel") (by decide +kernel) cw_M_putNumber (ab_gW_in 1198 (by decide +kernel) rfl) is_M_putNumber sl_M_putNumber (by decide) (fun av m m' h => cm_M_putNumber l h) (fun av m r h => by cases h) KT_nd
theorem cw_M_putSmall : ab_cw y_M_putSmall prog_12_method_23_code 5 2 (some .boolean) := ⟨ab_gW_in 1216 (by decide +kernel) rfl, ab_gW_in 71 (by decide +kernel) rfl, by decide +kernel, by decide +kernel, by decide +kernel⟩
theorem is_M_putSmall : Cond.instanceMethod y_M_putSmall ∈ ab_gW := ab_gW_in 1215 (by decide +kernel) rfl
theorem sl_M_putSmall : Cond.selects "StreamTransportModel" y_M_putSmall y_M_putSmall ∈ ab_gW := ab_gW_in 39 (by decide +kernel) rfl
set_option maxRecDepth 100000 in
theorem cm_M_putSmall (l : Launch) {av : List AV} {m : Mm} {r : Int32 × Mm} (h0 : c_M_putSmall av m = some r) : ∃ (k q : Nat) (av' : List AV) (ci : Nat) (fs : List (Nat × Nat × Nat × Nat)) (z : vw_C), av = .inr (.inr (k, some q)) :: av' ∧ av'.length = 2 ∧ k ≠ 0 ∧ KT[k]? = some (.inl (ci, fs)) ∧ CL[ci]? = some z ∧ z.1 = "StreamTransportModel" ∧ ab_nos av' ∧ ab_Met l KT CL y_M_putSmall (Cond.code y_M_putSmall prog_12_method_23_code 5 (some .boolean) :: ab_gW) 2 43 none av m (some (.inl r.1)) r.2 := by
  obtain ⟨v0, v1, v2, hav, h⟩ := c_M_putSmall_inv h0
  rw [r_M_putSmall_eq] at h
  have hmo : ab_mo m r.2 := ab_kp_mo (kp_M_putSmall h0)
  subst hav
  exact ⟨_, _, _, _, _, _, rfl, rfl, by decide, rfl, rfl, rfl, (by intro v hv q e; subst e; simp at hv), ab_met (by decide +kernel) KT_0 KT_nd KT_k3 E_M_putSmall (cl_M_putSmall l) hmo (Nat.le_of_ble_eq_true rfl) (ab_rI_inv h) (fun v hv => by cases hv; exact ⟨_, rfl⟩)⟩
/-! StreamTransportModel.seal(III)V -/
def y_M_seal : MethodName := ⟨"StreamTransportModel", "seal", "(III)V"⟩
def t_M_seal (pc : Nat) : Option Ent :=
  bif Nat.blt pc 42 then
    (bif Nat.blt pc 19 then
      (bif Nat.blt pc 9 then
        (bif Nat.blt pc 4 then
          (bif Nat.blt pc 2 then
            (bif Nat.beq pc 0 then some (.ldc 214, 0, 0, 0, 40503) else none)
          else
            bif Nat.blt pc 3 then
              (bif Nat.beq pc 2 then some (.iload_n 1, 1, 0, 0, 0) else none)
            else
              bif Nat.beq pc 3 then some (.iadd, 0, 0, 0, 0) else none)
        else
          bif Nat.blt pc 6 then
            (bif Nat.beq pc 4 then some (.istore 4, 4, 0, 0, 0) else none)
          else
            bif Nat.blt pc 7 then
              (bif Nat.beq pc 6 then some (.iconst 0, 0, 0, 0, 0) else none)
            else
              bif Nat.beq pc 7 then some (.istore 5, 5, 0, 0, 0) else none)
      else
        bif Nat.blt pc 13 then
          (bif Nat.blt pc 11 then
            (bif Nat.beq pc 9 then some (.iload 5, 5, 0, 0, 0) else none)
          else
            bif Nat.blt pc 12 then
              (bif Nat.beq pc 11 then some (.iload_n 3, 3, 0, 0, 0) else none)
            else
              bif Nat.beq pc 12 then some (.iconst 2, 0, 0, 0, 2) else none)
        else
          bif Nat.blt pc 14 then
            (bif Nat.beq pc 13 then some (.isub, 0, 0, 0, 0) else none)
          else
            bif Nat.blt pc 17 then
              (bif Nat.beq pc 14 then some (.if_icmp .ge (24), 38, 0, 0, 0) else none)
            else
              bif Nat.beq pc 17 then some (.iload 4, 4, 0, 0, 0) else none)
    else
      bif Nat.blt pc 29 then
        (bif Nat.blt pc 25 then
          (bif Nat.blt pc 20 then
            (bif Nat.beq pc 19 then some (.aload_n 0, 0, 0, 0, 0) else none)
          else
            bif Nat.blt pc 23 then
              (bif Nat.beq pc 20 then some (.getfield 116, 10, 40, 1, 0) else none)
            else
              bif Nat.beq pc 23 then some (.iload 5, 5, 0, 0, 0) else none)
        else
          bif Nat.blt pc 26 then
            (bif Nat.beq pc 25 then some (.iaload, 0, 0, 0, 0) else none)
          else
            bif Nat.blt pc 27 then
              (bif Nat.beq pc 26 then some (.ixor, 0, 0, 0, 0) else none)
            else
              bif Nat.beq pc 27 then some (.ldc 215, 0, 0, 0, 16777619) else none)
      else
        bif Nat.blt pc 35 then
          (bif Nat.blt pc 30 then
            (bif Nat.beq pc 29 then some (.imul, 0, 0, 0, 0) else none)
          else
            bif Nat.blt pc 32 then
              (bif Nat.beq pc 30 then some (.istore 4, 4, 0, 0, 0) else none)
            else
              bif Nat.beq pc 32 then some (.iinc 5 1, 5, 0, 0, 1) else none)
        else
          bif Nat.blt pc 38 then
            (bif Nat.beq pc 35 then some (.goto (-26), 9, 0, 0, 0) else none)
          else
            bif Nat.blt pc 40 then
              (bif Nat.beq pc 38 then some (.iload 4, 4, 0, 0, 0) else none)
            else
              bif Nat.beq pc 40 then some (.bipush 16, 0, 0, 0, 16) else none)
  else
    bif Nat.blt pc 59 then
      (bif Nat.blt pc 50 then
        (bif Nat.blt pc 45 then
          (bif Nat.blt pc 43 then
            (bif Nat.beq pc 42 then some (.iushr, 0, 0, 0, 0) else none)
          else
            bif Nat.blt pc 44 then
              (bif Nat.beq pc 43 then some (.iload_n 2, 2, 0, 0, 0) else none)
            else
              bif Nat.beq pc 44 then some (.ixor, 0, 0, 0, 0) else none)
        else
          bif Nat.blt pc 47 then
            (bif Nat.beq pc 45 then some (.ldc 216, 0, 0, 0, 65535) else none)
          else
            bif Nat.blt pc 48 then
              (bif Nat.beq pc 47 then some (.iand, 0, 0, 0, 0) else none)
            else
              bif Nat.beq pc 48 then some (.istore 5, 5, 0, 0, 0) else none)
      else
        bif Nat.blt pc 55 then
          (bif Nat.blt pc 51 then
            (bif Nat.beq pc 50 then some (.aload_n 0, 0, 0, 0, 0) else none)
          else
            bif Nat.blt pc 54 then
              (bif Nat.beq pc 51 then some (.getfield 116, 10, 40, 1, 0) else none)
            else
              bif Nat.beq pc 54 then some (.iload_n 3, 3, 0, 0, 0) else none)
        else
          bif Nat.blt pc 56 then
            (bif Nat.beq pc 55 then some (.iconst 2, 0, 0, 0, 2) else none)
          else
            bif Nat.blt pc 57 then
              (bif Nat.beq pc 56 then some (.isub, 0, 0, 0, 0) else none)
            else
              bif Nat.beq pc 57 then some (.iload 5, 5, 0, 0, 0) else none)
    else
      bif Nat.blt pc 68 then
        (bif Nat.blt pc 63 then
          (bif Nat.blt pc 61 then
            (bif Nat.beq pc 59 then some (.bipush 8, 0, 0, 0, 8) else none)
          else
            bif Nat.blt pc 62 then
              (bif Nat.beq pc 61 then some (.ishr, 0, 0, 0, 0) else none)
            else
              bif Nat.beq pc 62 then some (.iastore, 0, 0, 0, 0) else none)
        else
          bif Nat.blt pc 64 then
            (bif Nat.beq pc 63 then some (.aload_n 0, 0, 0, 0, 0) else none)
          else
            bif Nat.blt pc 67 then
              (bif Nat.beq pc 64 then some (.getfield 116, 10, 40, 1, 0) else none)
            else
              bif Nat.beq pc 67 then some (.iload_n 3, 3, 0, 0, 0) else none)
      else
        bif Nat.blt pc 72 then
          (bif Nat.blt pc 69 then
            (bif Nat.beq pc 68 then some (.iconst 1, 0, 0, 0, 1) else none)
          else
            bif Nat.blt pc 70 then
              (bif Nat.beq pc 69 then some (.isub, 0, 0, 0, 0) else none)
            else
              bif Nat.beq pc 70 then some (.iload 5, 5, 0, 0, 0) else none)
        else
          bif Nat.blt pc 76 then
            (bif Nat.blt pc 75 then
              (bif Nat.beq pc 72 then some (.sipush 255, 0, 0, 0, 255) else none)
            else
              bif Nat.beq pc 75 then some (.iand, 0, 0, 0, 0) else none)
          else
            bif Nat.blt pc 77 then
              (bif Nat.beq pc 76 then some (.iastore, 0, 0, 0, 0) else none)
            else
              bif Nat.beq pc 77 then some (.return_, 0, 0, 0, 0) else none
def i_M_seal : Nat → Option Ent := ab_tab 78 t_M_seal
def h_M_seal (pc : Nat) : Nat × List Bool := bif Nat.beq pc 9 then (1, [true, false, true, true, true, true]) else (0, [])
def s_M_seal (pc : Nat) : List (Int32 × Nat) × Nat := ([], 0)
noncomputable def eV_M_seal : Nat → List AV → Mm → Option Mm := ab_ev []
noncomputable def eI_M_seal : Nat → List AV → Mm → Option (Int32 × Mm) := ab_ev []
noncomputable def b_M_seal_0 (f : Nat) (v0 : Nat) (v1 : Int32) (v2 : Int32) (v3 : Int32) (m : Mm) : Option Rs := ab_ex KT none s_M_seal eV_M_seal eI_M_seal i_M_seal h_M_seal f 0 [some (.inr (.inr (28, some v0))), some (.inl v1), some (.inl v2), some (.inl v3), none, none] [] m
noncomputable def b_M_seal_9 (f : Nat) (v0 : Nat) (v2 : Int32) (v3 : Int32) (v4 : Int32) (v5 : Int32) (m : Mm) : Option Rs := ab_ex KT none s_M_seal eV_M_seal eI_M_seal i_M_seal h_M_seal f 9 [some (.inr (.inr (28, some v0))), none, some (.inl v2), some (.inl v3), some (.inl v4), some (.inl v5)] [] m
set_option maxRecDepth 100000 in
set_option maxHeartbeats 4000000 in
theorem b_M_seal_0_eq (f : Nat) (v0 : Nat) (v1 : Int32) (v2 : Int32) (v3 : Int32) (m : Mm) : b_M_seal_0 (f + 1) v0 v1 v2 v3 m =
    ab_let (((40503 : Int32) + v1)) fun x1 =>
    b_M_seal_9 f v0 v2 v3 x1 (0 : Int32) m := rfl
set_option maxRecDepth 100000 in
set_option maxHeartbeats 4000000 in
theorem b_M_seal_9_eq (f : Nat) (v0 : Nat) (v2 : Int32) (v3 : Int32) (v4 : Int32) (v5 : Int32) (m : Mm) : b_M_seal_9 (f + 1) v0 v2 v3 v4 v5 m =
    if (v3 - (2 : Int32)) ≤ v5 then
      ab_let (((((v4).toUInt32 >>> (((16 : Int32)).toUInt32 &&& Int32.toUInt32 31)).toInt32 ^^^ v2) &&& (65535 : Int32))) fun x1 =>
      (ab_ix (v3 - (2 : Int32)) 48).bind fun i2 =>
      ab_let (ab_uI m 168 (v0 + 36) i2 (x1 >>> ((8 : Int32) &&& 31))) fun m3 =>
      (ab_ix (v3 - (1 : Int32)) 48).bind fun i4 =>
      ab_let (ab_uI m3 168 (v0 + 36) i4 (x1 &&& (255 : Int32))) fun m5 =>
      some (.inl (none, m5))
    else
      (ab_ix v5 48).bind fun i6 =>
      ab_let (((v4 ^^^ (m.1 168 (v0 + 36) i6)) * (16777619 : Int32))) fun x7 =>
      ab_let (v5 + (1 : Int32)) fun x8 =>
      b_M_seal_9 f v0 v2 v3 x7 x8 m := rfl
noncomputable def r_M_seal : Nat → Int32 → Int32 → Int32 → Mm → Option Mm := ab_seal fun v0 v1 v2 v3 m => ab_rV (b_M_seal_0 50000 v0 v1 v2 v3 m)
theorem r_M_seal_eq (v0 : Nat) (v1 : Int32) (v2 : Int32) (v3 : Int32) (m : Mm) : r_M_seal v0 v1 v2 v3 m = ab_rV (b_M_seal_0 50000 v0 v1 v2 v3 m) := by
  unfold r_M_seal
  rw [ab_seal_eq]
noncomputable def c_M_seal : List AV → Mm → Option Mm := fun av m => match av with
  | [.inr (.inr (kv0, ov0)), .inl v1, .inl v2, .inl v3] => if kv0 = 28 then (ov0.bind fun v0 => r_M_seal v0 v1 v2 v3 m) else none
  | _ => none
theorem c_M_seal_inv {av : List AV} {m : Mm} {r : Mm} (h : c_M_seal av m = some r) : ∃ (v0 : Nat) (v1 : Int32) (v2 : Int32) (v3 : Int32), av = [.inr (.inr (28, some v0)), .inl v1, .inl v2, .inl v3] ∧ r_M_seal v0 v1 v2 v3 m = some r := by
  unfold c_M_seal at h
  split at h
  · rename_i kv0 ov0 v1 v2 v3
    by_cases hkv0 : kv0 = 28
    case neg => rw [if_neg hkv0] at h; cases h
    rw [if_pos hkv0] at h
    subst hkv0
    obtain ⟨v0, hev0, h⟩ := Option.bind_eq_some_iff.mp h
    subst hev0
    exact ⟨v0, v1, v2, v3, rfl, h⟩
  · cases h
def cs_M_seal : List Nat := []
set_option maxRecDepth 100000 in
theorem E_M_seal : ∀ (pc : Nat) (q : Ent), i_M_seal pc = some q → ab_E KT CL ab_gW "StreamTransportModel" "seal" none prog_12_method_25_code s_M_seal 6 pc q.1 q.2.1 q.2.2.1 q.2.2.2.1 q.2.2.2.2 := fun pc q hq =>
  ab_Eb_ok lc_M lj_M fl_M (fpn_M "seal") nw_M na_M nq_M (ab_tab_all (t := t_M_seal) (chk := fun pc q => ab_Eb none prog_12_method_25_code s_M_seal 6 LC_M LJ_M FL_M FPn_M NW_M NA_M NQ_M pc q.1 q.2.1 q.2.2.1 q.2.2.2.1 q.2.2.2.2) (by decide +kernel) hq)
set_option maxRecDepth 100000 in
theorem kp_M_seal {av : List AV} {m : Mm} {r : Mm} (h : c_M_seal av m = some r) : ab_kp m r := by
  obtain ⟨v0, v1, v2, v3, -, h⟩ := c_M_seal_inv h
  rw [r_M_seal_eq] at h
  have hV : ∀ a av m m', eV_M_seal a av m = some m' → ab_kp m m' := ab_ev_all (P := fun _ m r => ab_kp m r) [] (fun q hq => by cases hq)
  have hI : ∀ a av m q, eI_M_seal a av m = some q → ab_kp m q.2 := ab_ev_all (P := fun _ (m : Mm) (r : Int32 × Mm) => ab_kp m r.2) [] (fun q hq => by cases hq)
  exact ab_kprel (ρ := .inl (none, r)) (ab_tab_isn (t := t_M_seal) (by decide +kernel)) hV hI (ab_rV_inv h)
set_option maxRecDepth 100000 in
theorem cl_M_seal (l : Launch) : ∀ (pc : Nat) (q : Ent), i_M_seal pc = some q → ab_inv q.1 = true → ab_CR l KT CL none ab_gW "StreamTransportModel" prog_12_method_25_code 6 0 0 eV_M_seal eI_M_seal pc q := by
  intro pc q hq hi
  have hm : pc ∈ cs_M_seal := ab_tab_cs (t := t_M_seal) (by decide +kernel) hq hi
  cases hm
theorem cw_M_seal : ab_cw y_M_seal prog_12_method_25_code 6 3 none := ⟨ab_gW_in 1236 (by decide +kernel) rfl, ab_gW_in 71 (by decide +kernel) rfl, by decide +kernel, by decide +kernel, by decide +kernel⟩
theorem is_M_seal : Cond.instanceMethod y_M_seal ∈ ab_gW := ab_gW_in 1235 (by decide +kernel) rfl
theorem sl_M_seal : Cond.selects "StreamTransportModel" y_M_seal y_M_seal ∈ ab_gW := ab_gW_in 44 (by decide +kernel) rfl
set_option maxRecDepth 100000 in
theorem cm_M_seal (l : Launch) {av : List AV} {m : Mm} {r : Mm} (h0 : c_M_seal av m = some r) : ∃ (k q : Nat) (av' : List AV) (ci : Nat) (fs : List (Nat × Nat × Nat × Nat)) (z : vw_C), av = .inr (.inr (k, some q)) :: av' ∧ av'.length = 3 ∧ k ≠ 0 ∧ KT[k]? = some (.inl (ci, fs)) ∧ CL[ci]? = some z ∧ z.1 = "StreamTransportModel" ∧ ab_nos av' ∧ ab_Met l KT CL y_M_seal (Cond.code y_M_seal prog_12_method_25_code 6 none :: ab_gW) 0 0 none av m none r := by
  obtain ⟨v0, v1, v2, v3, hav, h⟩ := c_M_seal_inv h0
  rw [r_M_seal_eq] at h
  have hmo : ab_mo m r := ab_kp_mo (kp_M_seal h0)
  subst hav
  exact ⟨_, _, _, _, _, _, rfl, rfl, by decide, rfl, rfl, rfl, (by intro v hv q e; subst e; simp at hv), ab_met (by decide +kernel) KT_0 KT_nd KT_k3 E_M_seal (cl_M_seal l) hmo (Nat.le_of_ble_eq_true rfl) (ab_rV_inv h) (fun v hv => by cases hv)⟩
/-! StreamTransportModel.launch(II)V -/
def y_M_launch : MethodName := ⟨"StreamTransportModel", "launch", "(II)V"⟩
def t_M_launch (pc : Nat) : Option Ent :=
  bif Nat.blt pc 41 then
    (bif Nat.blt pc 23 then
      (bif Nat.blt pc 11 then
        (bif Nat.blt pc 6 then
          (bif Nat.blt pc 1 then
            (bif Nat.beq pc 0 then some (.aload_n 0, 0, 0, 0, 0) else none)
          else
            bif Nat.blt pc 4 then
              (bif Nat.beq pc 1 then some (.getfield 217, 10, 37, 0, 0) else none)
            else
              bif Nat.beq pc 4 then some (.bipush 16, 0, 0, 0, 16) else none)
        else
          bif Nat.blt pc 9 then
            (bif Nat.beq pc 6 then some (.if_icmp .ne (4), 10, 0, 0, 0) else none)
          else
            bif Nat.blt pc 10 then
              (bif Nat.beq pc 9 then some (.return_, 0, 0, 0, 0) else none)
            else
              bif Nat.beq pc 10 then some (.aload_n 0, 0, 0, 0, 0) else none)
      else
        bif Nat.blt pc 17 then
          (bif Nat.blt pc 14 then
            (bif Nat.beq pc 11 then some (.getfield 110, 10, 38, 1, 0) else none)
          else
            bif Nat.blt pc 16 then
              (bif Nat.beq pc 14 then some (.bipush 42, 0, 0, 0, 42) else none)
            else
              bif Nat.beq pc 16 then some (.aload_n 0, 0, 0, 0, 0) else none)
        else
          bif Nat.blt pc 21 then
            (bif Nat.blt pc 20 then
              (bif Nat.beq pc 17 then some (.getfield 217, 10, 37, 0, 0) else none)
            else
              bif Nat.beq pc 20 then some (.imul, 0, 0, 0, 0) else none)
          else
            bif Nat.blt pc 22 then
              (bif Nat.beq pc 21 then some (.iload_n 1, 1, 0, 0, 0) else none)
            else
              bif Nat.beq pc 22 then some (.iastore, 0, 0, 0, 0) else none)
    else
      bif Nat.blt pc 34 then
        (bif Nat.blt pc 29 then
          (bif Nat.blt pc 24 then
            (bif Nat.beq pc 23 then some (.aload_n 0, 0, 0, 0, 0) else none)
          else
            bif Nat.blt pc 27 then
              (bif Nat.beq pc 24 then some (.getfield 110, 10, 38, 1, 0) else none)
            else
              bif Nat.beq pc 27 then some (.bipush 42, 0, 0, 0, 42) else none)
        else
          bif Nat.blt pc 30 then
            (bif Nat.beq pc 29 then some (.aload_n 0, 0, 0, 0, 0) else none)
          else
            bif Nat.blt pc 33 then
              (bif Nat.beq pc 30 then some (.getfield 217, 10, 37, 0, 0) else none)
            else
              bif Nat.beq pc 33 then some (.imul, 0, 0, 0, 0) else none)
      else
        bif Nat.blt pc 37 then
          (bif Nat.blt pc 35 then
            (bif Nat.beq pc 34 then some (.iconst 1, 0, 0, 0, 1) else none)
          else
            bif Nat.blt pc 36 then
              (bif Nat.beq pc 35 then some (.iadd, 0, 0, 0, 0) else none)
            else
              bif Nat.beq pc 36 then some (.iload_n 2, 2, 0, 0, 0) else none)
        else
          bif Nat.blt pc 39 then
            (bif Nat.blt pc 38 then
              (bif Nat.beq pc 37 then some (.iastore, 0, 0, 0, 0) else none)
            else
              bif Nat.beq pc 38 then some (.iconst 0, 0, 0, 0, 0) else none)
          else
            bif Nat.blt pc 40 then
              (bif Nat.beq pc 39 then some (.istore_n 3, 3, 0, 0, 0) else none)
            else
              bif Nat.beq pc 40 then some (.iload_n 3, 3, 0, 0, 0) else none)
  else
    bif Nat.blt pc 61 then
      (bif Nat.blt pc 52 then
        (bif Nat.blt pc 46 then
          (bif Nat.blt pc 42 then
            (bif Nat.beq pc 41 then some (.iload_n 2, 2, 0, 0, 0) else none)
          else
            bif Nat.blt pc 45 then
              (bif Nat.beq pc 42 then some (.if_icmp .ge (31), 73, 0, 0, 0) else none)
            else
              bif Nat.beq pc 45 then some (.aload_n 0, 0, 0, 0, 0) else none)
        else
          bif Nat.blt pc 49 then
            (bif Nat.beq pc 46 then some (.getfield 110, 10, 38, 1, 0) else none)
          else
            bif Nat.blt pc 51 then
              (bif Nat.beq pc 49 then some (.bipush 42, 0, 0, 0, 42) else none)
            else
              bif Nat.beq pc 51 then some (.aload_n 0, 0, 0, 0, 0) else none)
      else
        bif Nat.blt pc 57 then
          (bif Nat.blt pc 55 then
            (bif Nat.beq pc 52 then some (.getfield 217, 10, 37, 0, 0) else none)
          else
            bif Nat.blt pc 56 then
              (bif Nat.beq pc 55 then some (.imul, 0, 0, 0, 0) else none)
            else
              bif Nat.beq pc 56 then some (.iconst 2, 0, 0, 0, 2) else none)
        else
          bif Nat.blt pc 59 then
            (bif Nat.blt pc 58 then
              (bif Nat.beq pc 57 then some (.iadd, 0, 0, 0, 0) else none)
            else
              bif Nat.beq pc 58 then some (.iload_n 3, 3, 0, 0, 0) else none)
          else
            bif Nat.blt pc 60 then
              (bif Nat.beq pc 59 then some (.iadd, 0, 0, 0, 0) else none)
            else
              bif Nat.beq pc 60 then some (.aload_n 0, 0, 0, 0, 0) else none)
    else
      bif Nat.blt pc 73 then
        (bif Nat.blt pc 66 then
          (bif Nat.blt pc 64 then
            (bif Nat.beq pc 61 then some (.getfield 116, 10, 40, 1, 0) else none)
          else
            bif Nat.blt pc 65 then
              (bif Nat.beq pc 64 then some (.iload_n 3, 3, 0, 0, 0) else none)
            else
              bif Nat.beq pc 65 then some (.iaload, 0, 0, 0, 0) else none)
        else
          bif Nat.blt pc 67 then
            (bif Nat.beq pc 66 then some (.iastore, 0, 0, 0, 0) else none)
          else
            bif Nat.blt pc 70 then
              (bif Nat.beq pc 67 then some (.iinc 3 1, 3, 0, 0, 1) else none)
            else
              bif Nat.beq pc 70 then some (.goto (-30), 40, 0, 0, 0) else none)
      else
        bif Nat.blt pc 78 then
          (bif Nat.blt pc 74 then
            (bif Nat.beq pc 73 then some (.aload_n 0, 0, 0, 0, 0) else none)
          else
            bif Nat.blt pc 75 then
              (bif Nat.beq pc 74 then some (.dup, 0, 0, 1, 0) else none)
            else
              bif Nat.beq pc 75 then some (.getfield 217, 10, 37, 0, 0) else none)
        else
          bif Nat.blt pc 80 then
            (bif Nat.blt pc 79 then
              (bif Nat.beq pc 78 then some (.iconst 1, 0, 0, 0, 1) else none)
            else
              bif Nat.beq pc 79 then some (.iadd, 0, 0, 0, 0) else none)
          else
            bif Nat.blt pc 83 then
              (bif Nat.beq pc 80 then some (.putfield 217, 10, 37, 0, 0) else none)
            else
              bif Nat.beq pc 83 then some (.return_, 0, 0, 0, 0) else none
def i_M_launch : Nat → Option Ent := ab_tab 84 t_M_launch
def h_M_launch (pc : Nat) : Nat × List Bool := bif Nat.beq pc 40 then (1, [true, false, true, true]) else (0, [])
def s_M_launch (pc : Nat) : List (Int32 × Nat) × Nat := ([], 0)
noncomputable def eV_M_launch : Nat → List AV → Mm → Option Mm := ab_ev []
noncomputable def eI_M_launch : Nat → List AV → Mm → Option (Int32 × Mm) := ab_ev []
noncomputable def b_M_launch_0 (f : Nat) (v0 : Nat) (v1 : Int32) (v2 : Int32) (m : Mm) : Option Rs := ab_ex KT none s_M_launch eV_M_launch eI_M_launch i_M_launch h_M_launch f 0 [some (.inr (.inr (28, some v0))), some (.inl v1), some (.inl v2), none] [] m
noncomputable def b_M_launch_40 (f : Nat) (v0 : Nat) (v2 : Int32) (v3 : Int32) (m : Mm) : Option Rs := ab_ex KT none s_M_launch eV_M_launch eI_M_launch i_M_launch h_M_launch f 40 [some (.inr (.inr (28, some v0))), none, some (.inl v2), some (.inl v3)] [] m
set_option maxRecDepth 100000 in
set_option maxHeartbeats 4000000 in
theorem b_M_launch_0_eq (f : Nat) (v0 : Nat) (v1 : Int32) (v2 : Int32) (m : Mm) : b_M_launch_0 (f + 1) v0 v1 v2 m =
    if (m.1 118 v0 0) = (16 : Int32) then
      some (.inl (none, m))
    else
      (ab_ix ((42 : Int32) * (m.1 118 v0 0)) 672).bind fun i1 =>
      ab_let (ab_uI m 166 (v0 + 34) i1 v1) fun m2 =>
      (ab_ix (((42 : Int32) * (m2.1 118 v0 0)) + (1 : Int32)) 672).bind fun i3 =>
      ab_let (ab_uI m2 166 (v0 + 34) i3 v2) fun m4 =>
      b_M_launch_40 f v0 v2 (0 : Int32) m4 := rfl
set_option maxRecDepth 100000 in
set_option maxHeartbeats 4000000 in
theorem b_M_launch_40_eq (f : Nat) (v0 : Nat) (v2 : Int32) (v3 : Int32) (m : Mm) : b_M_launch_40 (f + 1) v0 v2 v3 m =
    if v2 ≤ v3 then
      ab_let (ab_uI m 118 v0 0 ((m.1 118 v0 0) + (1 : Int32))) fun m1 =>
      some (.inl (none, m1))
    else
      (ab_ix v3 48).bind fun i2 =>
      (ab_ix ((((42 : Int32) * (m.1 118 v0 0)) + (2 : Int32)) + v3) 672).bind fun i3 =>
      ab_let (ab_uI m 166 (v0 + 34) i3 (m.1 168 (v0 + 36) i2)) fun m4 =>
      ab_let (v3 + (1 : Int32)) fun x5 =>
      b_M_launch_40 f v0 v2 x5 m4 := rfl
noncomputable def r_M_launch : Nat → Int32 → Int32 → Mm → Option Mm := ab_seal fun v0 v1 v2 m => ab_rV (b_M_launch_0 50000 v0 v1 v2 m)
theorem r_M_launch_eq (v0 : Nat) (v1 : Int32) (v2 : Int32) (m : Mm) : r_M_launch v0 v1 v2 m = ab_rV (b_M_launch_0 50000 v0 v1 v2 m) := by
  unfold r_M_launch
  rw [ab_seal_eq]
noncomputable def c_M_launch : List AV → Mm → Option Mm := fun av m => match av with
  | [.inr (.inr (kv0, ov0)), .inl v1, .inl v2] => if kv0 = 28 then (ov0.bind fun v0 => r_M_launch v0 v1 v2 m) else none
  | _ => none
theorem c_M_launch_inv {av : List AV} {m : Mm} {r : Mm} (h : c_M_launch av m = some r) : ∃ (v0 : Nat) (v1 : Int32) (v2 : Int32), av = [.inr (.inr (28, some v0)), .inl v1, .inl v2] ∧ r_M_launch v0 v1 v2 m = some r := by
  unfold c_M_launch at h
  split at h
  · rename_i kv0 ov0 v1 v2
    by_cases hkv0 : kv0 = 28
    case neg => rw [if_neg hkv0] at h; cases h
    rw [if_pos hkv0] at h
    subst hkv0
    obtain ⟨v0, hev0, h⟩ := Option.bind_eq_some_iff.mp h
    subst hev0
    exact ⟨v0, v1, v2, rfl, h⟩
  · cases h
def cs_M_launch : List Nat := []
set_option maxRecDepth 100000 in
theorem E_M_launch : ∀ (pc : Nat) (q : Ent), i_M_launch pc = some q → ab_E KT CL ab_gW "StreamTransportModel" "launch" none prog_12_method_26_code s_M_launch 4 pc q.1 q.2.1 q.2.2.1 q.2.2.2.1 q.2.2.2.2 := fun pc q hq =>
  ab_Eb_ok lc_M lj_M fl_M (fpn_M "launch") nw_M na_M nq_M (ab_tab_all (t := t_M_launch) (chk := fun pc q => ab_Eb none prog_12_method_26_code s_M_launch 4 LC_M LJ_M FL_M FPn_M NW_M NA_M NQ_M pc q.1 q.2.1 q.2.2.1 q.2.2.2.1 q.2.2.2.2) (by decide +kernel) hq)
set_option maxRecDepth 100000 in
theorem kp_M_launch {av : List AV} {m : Mm} {r : Mm} (h : c_M_launch av m = some r) : ab_kp m r := by
  obtain ⟨v0, v1, v2, -, h⟩ := c_M_launch_inv h
  rw [r_M_launch_eq] at h
  have hV : ∀ a av m m', eV_M_launch a av m = some m' → ab_kp m m' := ab_ev_all (P := fun _ m r => ab_kp m r) [] (fun q hq => by cases hq)
  have hI : ∀ a av m q, eI_M_launch a av m = some q → ab_kp m q.2 := ab_ev_all (P := fun _ (m : Mm) (r : Int32 × Mm) => ab_kp m r.2) [] (fun q hq => by cases hq)
  exact ab_kprel (ρ := .inl (none, r)) (ab_tab_isn (t := t_M_launch) (by decide +kernel)) hV hI (ab_rV_inv h)
set_option maxRecDepth 100000 in
theorem cl_M_launch (l : Launch) : ∀ (pc : Nat) (q : Ent), i_M_launch pc = some q → ab_inv q.1 = true → ab_CR l KT CL none ab_gW "StreamTransportModel" prog_12_method_26_code 4 0 0 eV_M_launch eI_M_launch pc q := by
  intro pc q hq hi
  have hm : pc ∈ cs_M_launch := ab_tab_cs (t := t_M_launch) (by decide +kernel) hq hi
  cases hm
theorem cw_M_launch : ab_cw y_M_launch prog_12_method_26_code 4 2 none := ⟨ab_gW_in 1243 (by decide +kernel) rfl, ab_gW_in 71 (by decide +kernel) rfl, by decide +kernel, by decide +kernel, by decide +kernel⟩
theorem is_M_launch : Cond.instanceMethod y_M_launch ∈ ab_gW := ab_gW_in 1242 (by decide +kernel) rfl
theorem sl_M_launch : Cond.selects "StreamTransportModel" y_M_launch y_M_launch ∈ ab_gW := ab_gW_in 45 (by decide +kernel) rfl
set_option maxRecDepth 100000 in
theorem cm_M_launch (l : Launch) {av : List AV} {m : Mm} {r : Mm} (h0 : c_M_launch av m = some r) : ∃ (k q : Nat) (av' : List AV) (ci : Nat) (fs : List (Nat × Nat × Nat × Nat)) (z : vw_C), av = .inr (.inr (k, some q)) :: av' ∧ av'.length = 2 ∧ k ≠ 0 ∧ KT[k]? = some (.inl (ci, fs)) ∧ CL[ci]? = some z ∧ z.1 = "StreamTransportModel" ∧ ab_nos av' ∧ ab_Met l KT CL y_M_launch (Cond.code y_M_launch prog_12_method_26_code 4 none :: ab_gW) 0 0 none av m none r := by
  obtain ⟨v0, v1, v2, hav, h⟩ := c_M_launch_inv h0
  rw [r_M_launch_eq] at h
  have hmo : ab_mo m r := ab_kp_mo (kp_M_launch h0)
  subst hav
  exact ⟨_, _, _, _, _, _, rfl, rfl, by decide, rfl, rfl, rfl, (by intro v hv q e; subst e; simp at hv), ab_met (by decide +kernel) KT_0 KT_nd KT_k3 E_M_launch (cl_M_launch l) hmo (Nat.le_of_ble_eq_true rfl) (ab_rV_inv h) (fun v hv => by cases hv)⟩
/-! StreamTransportModel.send(I)I -/
def y_M_send : MethodName := ⟨"StreamTransportModel", "send", "(I)I"⟩
def t_M_send (pc : Nat) : Option Ent :=
  bif Nat.blt pc 187 then
    (bif Nat.blt pc 89 then
      (bif Nat.blt pc 42 then
        (bif Nat.blt pc 22 then
          (bif Nat.blt pc 11 then
            (bif Nat.blt pc 5 then
              (bif Nat.blt pc 1 then
                (bif Nat.beq pc 0 then some (.aload_n 0, 0, 0, 0, 0) else none)
              else
                bif Nat.blt pc 2 then
                  (bif Nat.beq pc 1 then some (.iconst 0, 0, 0, 0, 0) else none)
                else
                  bif Nat.beq pc 2 then some (.putfield 135, 10, 3, 0, 0) else none)
            else
              bif Nat.blt pc 7 then
                (bif Nat.blt pc 6 then
                  (bif Nat.beq pc 5 then some (.iload_n 1, 1, 0, 0, 0) else none)
                else
                  bif Nat.beq pc 6 then some (.iconst 0, 0, 0, 0, 0) else none)
              else
                bif Nat.blt pc 8 then
                  (bif Nat.beq pc 7 then some (.iconst 1, 0, 0, 0, 1) else none)
                else
                  bif Nat.beq pc 8 then some (.invokestatic 138, 104, 3, 1, 0) else none)
          else
            bif Nat.blt pc 16 then
              (bif Nat.blt pc 14 then
                (bif Nat.beq pc 11 then some (.ifCond .ne (5), 16, 0, 0, 0) else none)
              else
                bif Nat.blt pc 15 then
                  (bif Nat.beq pc 14 then some (.iconst (-1), 0, 0, 0, -1) else none)
                else
                  bif Nat.beq pc 15 then some (.ireturn, 0, 0, 0, 0) else none)
            else
              bif Nat.blt pc 20 then
                (bif Nat.blt pc 19 then
                  (bif Nat.beq pc 16 then some (.sipush 560, 0, 0, 0, 560) else none)
                else
                  bif Nat.beq pc 19 then some (.iload_n 1, 1, 0, 0, 0) else none)
              else
                bif Nat.blt pc 21 then
                  (bif Nat.beq pc 20 then some (.imul, 0, 0, 0, 0) else none)
                else
                  bif Nat.beq pc 21 then some (.aload_n 0, 0, 0, 0, 0) else none)
        else
          bif Nat.blt pc 31 then
            (bif Nat.blt pc 27 then
              (bif Nat.blt pc 25 then
                (bif Nat.beq pc 22 then some (.getfield 65, 10, 22, 1, 0) else none)
              else
                bif Nat.blt pc 26 then
                  (bif Nat.beq pc 25 then some (.iload_n 1, 1, 0, 0, 0) else none)
                else
                  bif Nat.beq pc 26 then some (.iaload, 0, 0, 0, 0) else none)
            else
              bif Nat.blt pc 29 then
                (bif Nat.blt pc 28 then
                  (bif Nat.beq pc 27 then some (.iadd, 0, 0, 0, 0) else none)
                else
                  bif Nat.beq pc 28 then some (.istore_n 2, 2, 0, 0, 0) else none)
              else
                bif Nat.blt pc 30 then
                  (bif Nat.beq pc 29 then some (.aload_n 0, 0, 0, 0, 0) else none)
                else
                  bif Nat.beq pc 30 then some (.iconst 0, 0, 0, 0, 0) else none)
          else
            bif Nat.blt pc 36 then
              (bif Nat.blt pc 34 then
                (bif Nat.beq pc 31 then some (.putfield 162, 10, 44, 0, 0) else none)
              else
                bif Nat.blt pc 35 then
                  (bif Nat.beq pc 34 then some (.iconst 0, 0, 0, 0, 0) else none)
                else
                  bif Nat.beq pc 35 then some (.istore_n 3, 3, 0, 0, 0) else none)
            else
              bif Nat.blt pc 40 then
                (bif Nat.blt pc 37 then
                  (bif Nat.beq pc 36 then some (.aload_n 0, 0, 0, 0, 0) else none)
                else
                  bif Nat.beq pc 37 then some (.getfield 104, 10, 35, 1, 0) else none)
              else
                bif Nat.blt pc 41 then
                  (bif Nat.beq pc 40 then some (.iload_n 2, 2, 0, 0, 0) else none)
                else
                  bif Nat.beq pc 41 then some (.iconst (-1), 0, 0, 0, -1) else none)
      else
        bif Nat.blt pc 63 then
          (bif Nat.blt pc 53 then
            (bif Nat.blt pc 46 then
              (bif Nat.blt pc 43 then
                (bif Nat.beq pc 42 then some (.iastore, 0, 0, 0, 0) else none)
              else
                bif Nat.blt pc 44 then
                  (bif Nat.beq pc 43 then some (.iconst 0, 0, 0, 0, 0) else none)
                else
                  bif Nat.beq pc 44 then some (.istore 4, 4, 0, 0, 0) else none)
            else
              bif Nat.blt pc 49 then
                (bif Nat.blt pc 48 then
                  (bif Nat.beq pc 46 then some (.iload 4, 4, 0, 0, 0) else none)
                else
                  bif Nat.beq pc 48 then some (.iconst 4, 0, 0, 0, 4) else none)
              else
                bif Nat.blt pc 52 then
                  (bif Nat.beq pc 49 then some (.if_icmp .ge (21), 70, 0, 0, 0) else none)
                else
                  bif Nat.beq pc 52 then some (.aload_n 0, 0, 0, 0, 0) else none)
          else
            bif Nat.blt pc 58 then
              (bif Nat.blt pc 56 then
                (bif Nat.beq pc 53 then some (.getfield 107, 10, 36, 1, 0) else none)
              else
                bif Nat.blt pc 57 then
                  (bif Nat.beq pc 56 then some (.iconst 4, 0, 0, 0, 4) else none)
                else
                  bif Nat.beq pc 57 then some (.iload_n 2, 2, 0, 0, 0) else none)
            else
              bif Nat.blt pc 61 then
                (bif Nat.blt pc 59 then
                  (bif Nat.beq pc 58 then some (.imul, 0, 0, 0, 0) else none)
                else
                  bif Nat.beq pc 59 then some (.iload 4, 4, 0, 0, 0) else none)
              else
                bif Nat.blt pc 62 then
                  (bif Nat.beq pc 61 then some (.iadd, 0, 0, 0, 0) else none)
                else
                  bif Nat.beq pc 62 then some (.iconst 0, 0, 0, 0, 0) else none)
        else
          bif Nat.blt pc 76 then
            (bif Nat.blt pc 70 then
              (bif Nat.blt pc 64 then
                (bif Nat.beq pc 63 then some (.iastore, 0, 0, 0, 0) else none)
              else
                bif Nat.blt pc 67 then
                  (bif Nat.beq pc 64 then some (.iinc 4 1, 4, 0, 0, 1) else none)
                else
                  bif Nat.beq pc 67 then some (.goto (-21), 46, 0, 0, 0) else none)
            else
              bif Nat.blt pc 74 then
                (bif Nat.blt pc 71 then
                  (bif Nat.beq pc 70 then some (.aload_n 0, 0, 0, 0, 0) else none)
                else
                  bif Nat.beq pc 71 then some (.getfield 74, 10, 25, 1, 0) else none)
              else
                bif Nat.blt pc 75 then
                  (bif Nat.beq pc 74 then some (.iload_n 1, 1, 0, 0, 0) else none)
                else
                  bif Nat.beq pc 75 then some (.iaload, 0, 0, 0, 0) else none)
          else
            bif Nat.blt pc 83 then
              (bif Nat.blt pc 79 then
                (bif Nat.beq pc 76 then some (.ifCond .lt (40), 116, 0, 0, 0) else none)
              else
                bif Nat.blt pc 80 then
                  (bif Nat.beq pc 79 then some (.aload_n 0, 0, 0, 0, 0) else none)
                else
                  bif Nat.beq pc 80 then some (.getfield 89, 10, 30, 1, 0) else none)
            else
              bif Nat.blt pc 85 then
                (bif Nat.blt pc 84 then
                  (bif Nat.beq pc 83 then some (.iload_n 1, 1, 0, 0, 0) else none)
                else
                  bif Nat.beq pc 84 then some (.baload, 0, 0, 0, 0) else none)
              else
                bif Nat.blt pc 88 then
                  (bif Nat.beq pc 85 then some (.ifCond .ne (5), 90, 0, 0, 0) else none)
                else
                  bif Nat.beq pc 88 then some (.iconst (-1), 0, 0, 0, -1) else none)
    else
      bif Nat.blt pc 136 then
        (bif Nat.blt pc 110 then
          (bif Nat.blt pc 98 then
            (bif Nat.blt pc 94 then
              (bif Nat.blt pc 90 then
                (bif Nat.beq pc 89 then some (.ireturn, 0, 0, 0, 0) else none)
              else
                bif Nat.blt pc 91 then
                  (bif Nat.beq pc 90 then some (.aload_n 0, 0, 0, 0, 0) else none)
                else
                  bif Nat.beq pc 91 then some (.getfield 89, 10, 30, 1, 0) else none)
            else
              bif Nat.blt pc 96 then
                (bif Nat.blt pc 95 then
                  (bif Nat.beq pc 94 then some (.iload_n 1, 1, 0, 0, 0) else none)
                else
                  bif Nat.beq pc 95 then some (.iconst 0, 0, 0, 0, 0) else none)
              else
                bif Nat.blt pc 97 then
                  (bif Nat.beq pc 96 then some (.bastore, 0, 0, 0, 0) else none)
                else
                  bif Nat.beq pc 97 then some (.aload_n 0, 0, 0, 0, 0) else none)
          else
            bif Nat.blt pc 104 then
              (bif Nat.blt pc 100 then
                (bif Nat.beq pc 98 then some (.bipush 6, 0, 0, 0, 6) else none)
              else
                bif Nat.blt pc 103 then
                  (bif Nat.beq pc 100 then some (.invokevirtual 168, 110, 2, 0, 0) else none)
                else
                  bif Nat.beq pc 103 then some (.aload_n 0, 0, 0, 0, 0) else none)
            else
              bif Nat.blt pc 108 then
                (bif Nat.blt pc 105 then
                  (bif Nat.beq pc 104 then some (.aload_n 0, 0, 0, 0, 0) else none)
                else
                  bif Nat.beq pc 105 then some (.getfield 74, 10, 25, 1, 0) else none)
              else
                bif Nat.blt pc 109 then
                  (bif Nat.beq pc 108 then some (.iload_n 1, 1, 0, 0, 0) else none)
                else
                  bif Nat.beq pc 109 then some (.iaload, 0, 0, 0, 0) else none)
        else
          bif Nat.blt pc 125 then
            (bif Nat.blt pc 117 then
              (bif Nat.blt pc 113 then
                (bif Nat.beq pc 110 then some (.invokevirtual 174, 111, 2, 0, 0) else none)
              else
                bif Nat.blt pc 116 then
                  (bif Nat.beq pc 113 then some (.goto 144, 257, 0, 0, 0) else none)
                else
                  bif Nat.beq pc 116 then some (.aload_n 0, 0, 0, 0, 0) else none)
            else
              bif Nat.blt pc 121 then
                (bif Nat.blt pc 120 then
                  (bif Nat.beq pc 117 then some (.getfield 86, 10, 29, 1, 0) else none)
                else
                  bif Nat.beq pc 120 then some (.iload_n 1, 1, 0, 0, 0) else none)
              else
                bif Nat.blt pc 122 then
                  (bif Nat.beq pc 121 then some (.baload, 0, 0, 0, 0) else none)
                else
                  bif Nat.beq pc 122 then some (.ifCond .eq (8), 130, 0, 0, 0) else none)
          else
            bif Nat.blt pc 130 then
              (bif Nat.blt pc 126 then
                (bif Nat.beq pc 125 then some (.aload_n 0, 0, 0, 0, 0) else none)
              else
                bif Nat.blt pc 127 then
                  (bif Nat.beq pc 126 then some (.iload_n 1, 1, 0, 0, 0) else none)
                else
                  bif Nat.beq pc 127 then some (.invokevirtual 194, 119, 2, 0, 0) else none)
            else
              bif Nat.blt pc 132 then
                (bif Nat.blt pc 131 then
                  (bif Nat.beq pc 130 then some (.aload_n 0, 0, 0, 0, 0) else none)
                else
                  bif Nat.beq pc 131 then some (.iload_n 1, 1, 0, 0, 0) else none)
              else
                bif Nat.blt pc 133 then
                  (bif Nat.beq pc 132 then some (.iload_n 2, 2, 0, 0, 0) else none)
                else
                  bif Nat.beq pc 133 then some (.invokevirtual 197, 123, 3, 1, 0) else none)
      else
        bif Nat.blt pc 155 then
          (bif Nat.blt pc 145 then
            (bif Nat.blt pc 140 then
              (bif Nat.blt pc 137 then
                (bif Nat.beq pc 136 then some (.istore_n 3, 3, 0, 0, 0) else none)
              else
                bif Nat.blt pc 138 then
                  (bif Nat.beq pc 137 then some (.iconst 0, 0, 0, 0, 0) else none)
                else
                  bif Nat.beq pc 138 then some (.istore 4, 4, 0, 0, 0) else none)
            else
              bif Nat.blt pc 142 then
                (bif Nat.blt pc 141 then
                  (bif Nat.beq pc 140 then some (.iconst 4, 0, 0, 0, 4) else none)
                else
                  bif Nat.beq pc 141 then some (.iload_n 1, 1, 0, 0, 0) else none)
              else
                bif Nat.blt pc 143 then
                  (bif Nat.beq pc 142 then some (.imul, 0, 0, 0, 0) else none)
                else
                  bif Nat.beq pc 143 then some (.istore 5, 5, 0, 0, 0) else none)
          else
            bif Nat.blt pc 149 then
              (bif Nat.blt pc 147 then
                (bif Nat.beq pc 145 then some (.iload 5, 5, 0, 0, 0) else none)
              else
                bif Nat.blt pc 148 then
                  (bif Nat.beq pc 147 then some (.iconst 4, 0, 0, 0, 4) else none)
                else
                  bif Nat.beq pc 148 then some (.iload_n 1, 1, 0, 0, 0) else none)
            else
              bif Nat.blt pc 151 then
                (bif Nat.blt pc 150 then
                  (bif Nat.beq pc 149 then some (.imul, 0, 0, 0, 0) else none)
                else
                  bif Nat.beq pc 150 then some (.iconst 4, 0, 0, 0, 4) else none)
              else
                bif Nat.blt pc 152 then
                  (bif Nat.beq pc 151 then some (.iadd, 0, 0, 0, 0) else none)
                else
                  bif Nat.beq pc 152 then some (.if_icmp .ge (31), 183, 0, 0, 0) else none)
        else
          bif Nat.blt pc 170 then
            (bif Nat.blt pc 161 then
              (bif Nat.blt pc 157 then
                (bif Nat.beq pc 155 then some (.iload 4, 4, 0, 0, 0) else none)
              else
                bif Nat.blt pc 160 then
                  (bif Nat.beq pc 157 then some (.ifCond .ne (13), 170, 0, 0, 0) else none)
                else
                  bif Nat.beq pc 160 then some (.aload_n 0, 0, 0, 0, 0) else none)
            else
              bif Nat.blt pc 164 then
                (bif Nat.blt pc 162 then
                  (bif Nat.beq pc 161 then some (.iload_n 1, 1, 0, 0, 0) else none)
                else
                  bif Nat.beq pc 162 then some (.iload 5, 5, 0, 0, 0) else none)
              else
                bif Nat.blt pc 167 then
                  (bif Nat.beq pc 164 then some (.invokevirtual 200, 121, 3, 1, 0) else none)
                else
                  bif Nat.beq pc 167 then some (.ifCond .eq (7), 174, 0, 0, 0) else none)
          else
            bif Nat.blt pc 177 then
              (bif Nat.blt pc 174 then
                (bif Nat.blt pc 171 then
                  (bif Nat.beq pc 170 then some (.iconst 1, 0, 0, 0, 1) else none)
                else
                  bif Nat.beq pc 171 then some (.goto 4, 175, 0, 0, 0) else none)
              else
                bif Nat.blt pc 175 then
                  (bif Nat.beq pc 174 then some (.iconst 0, 0, 0, 0, 0) else none)
                else
                  bif Nat.beq pc 175 then some (.istore 4, 4, 0, 0, 0) else none)
            else
              bif Nat.blt pc 183 then
                (bif Nat.blt pc 180 then
                  (bif Nat.beq pc 177 then some (.iinc 5 1, 5, 0, 0, 1) else none)
                else
                  bif Nat.beq pc 180 then some (.goto (-35), 145, 0, 0, 0) else none)
              else
                bif Nat.blt pc 184 then
                  (bif Nat.beq pc 183 then some (.aload_n 0, 0, 0, 0, 0) else none)
                else
                  bif Nat.beq pc 184 then some (.getfield 92, 10, 31, 1, 0) else none)
  else
    bif Nat.blt pc 282 then
      (bif Nat.blt pc 232 then
        (bif Nat.blt pc 214 then
          (bif Nat.blt pc 201 then
            (bif Nat.blt pc 192 then
              (bif Nat.blt pc 188 then
                (bif Nat.beq pc 187 then some (.iload_n 1, 1, 0, 0, 0) else none)
              else
                bif Nat.blt pc 189 then
                  (bif Nat.beq pc 188 then some (.baload, 0, 0, 0, 0) else none)
                else
                  bif Nat.beq pc 189 then some (.ifCond .eq (27), 216, 0, 0, 0) else none)
            else
              bif Nat.blt pc 196 then
                (bif Nat.blt pc 193 then
                  (bif Nat.beq pc 192 then some (.iload_n 3, 3, 0, 0, 0) else none)
                else
                  bif Nat.beq pc 193 then some (.ifCond .ne (23), 216, 0, 0, 0) else none)
              else
                bif Nat.blt pc 198 then
                  (bif Nat.beq pc 196 then some (.iload 4, 4, 0, 0, 0) else none)
                else
                  bif Nat.beq pc 198 then some (.ifCond .ne (18), 216, 0, 0, 0) else none)
          else
            bif Nat.blt pc 206 then
              (bif Nat.blt pc 202 then
                (bif Nat.beq pc 201 then some (.aload_n 0, 0, 0, 0, 0) else none)
              else
                bif Nat.blt pc 203 then
                  (bif Nat.beq pc 202 then some (.iconst 1, 0, 0, 0, 1) else none)
                else
                  bif Nat.beq pc 203 then some (.invokevirtual 190, 112, 2, 1, 0) else none)
            else
              bif Nat.blt pc 210 then
                (bif Nat.blt pc 209 then
                  (bif Nat.beq pc 206 then some (.ifCond .eq (10), 216, 0, 0, 0) else none)
                else
                  bif Nat.beq pc 209 then some (.aload_n 0, 0, 0, 0, 0) else none)
              else
                bif Nat.blt pc 211 then
                  (bif Nat.beq pc 210 then some (.iconst 0, 0, 0, 0, 0) else none)
                else
                  bif Nat.beq pc 211 then some (.invokevirtual 168, 110, 2, 0, 0) else none)
        else
          bif Nat.blt pc 223 then
            (bif Nat.blt pc 217 then
              (bif Nat.blt pc 215 then
                (bif Nat.beq pc 214 then some (.iconst 1, 0, 0, 0, 1) else none)
              else
                bif Nat.blt pc 216 then
                  (bif Nat.beq pc 215 then some (.istore_n 3, 3, 0, 0, 0) else none)
                else
                  bif Nat.beq pc 216 then some (.iconst 4, 0, 0, 0, 4) else none)
            else
              bif Nat.blt pc 219 then
                (bif Nat.blt pc 218 then
                  (bif Nat.beq pc 217 then some (.iload_n 1, 1, 0, 0, 0) else none)
                else
                  bif Nat.beq pc 218 then some (.imul, 0, 0, 0, 0) else none)
              else
                bif Nat.blt pc 221 then
                  (bif Nat.beq pc 219 then some (.istore 5, 5, 0, 0, 0) else none)
                else
                  bif Nat.beq pc 221 then some (.iload 5, 5, 0, 0, 0) else none)
          else
            bif Nat.blt pc 226 then
              (bif Nat.blt pc 224 then
                (bif Nat.beq pc 223 then some (.iconst 4, 0, 0, 0, 4) else none)
              else
                bif Nat.blt pc 225 then
                  (bif Nat.beq pc 224 then some (.iload_n 1, 1, 0, 0, 0) else none)
                else
                  bif Nat.beq pc 225 then some (.imul, 0, 0, 0, 0) else none)
            else
              bif Nat.blt pc 228 then
                (bif Nat.blt pc 227 then
                  (bif Nat.beq pc 226 then some (.iconst 4, 0, 0, 0, 4) else none)
                else
                  bif Nat.beq pc 227 then some (.iadd, 0, 0, 0, 0) else none)
              else
                bif Nat.blt pc 231 then
                  (bif Nat.beq pc 228 then some (.if_icmp .ge (29), 257, 0, 0, 0) else none)
                else
                  bif Nat.beq pc 231 then some (.aload_n 0, 0, 0, 0, 0) else none)
      else
        bif Nat.blt pc 258 then
          (bif Nat.blt pc 245 then
            (bif Nat.blt pc 238 then
              (bif Nat.blt pc 233 then
                (bif Nat.beq pc 232 then some (.iload_n 1, 1, 0, 0, 0) else none)
              else
                bif Nat.blt pc 235 then
                  (bif Nat.beq pc 233 then some (.iload 5, 5, 0, 0, 0) else none)
                else
                  bif Nat.beq pc 235 then some (.invokevirtual 200, 121, 3, 1, 0) else none)
            else
              bif Nat.blt pc 242 then
                (bif Nat.blt pc 241 then
                  (bif Nat.beq pc 238 then some (.ifCond .eq (13), 251, 0, 0, 0) else none)
                else
                  bif Nat.beq pc 241 then some (.aload_n 0, 0, 0, 0, 0) else none)
              else
                bif Nat.blt pc 243 then
                  (bif Nat.beq pc 242 then some (.iload_n 1, 1, 0, 0, 0) else none)
                else
                  bif Nat.beq pc 243 then some (.iload 5, 5, 0, 0, 0) else none)
          else
            bif Nat.blt pc 250 then
              (bif Nat.blt pc 246 then
                (bif Nat.beq pc 245 then some (.iload_n 2, 2, 0, 0, 0) else none)
              else
                bif Nat.blt pc 249 then
                  (bif Nat.beq pc 246 then some (.invokevirtual 203, 122, 4, 0, 0) else none)
                else
                  bif Nat.beq pc 249 then some (.iconst 1, 0, 0, 0, 1) else none)
            else
              bif Nat.blt pc 254 then
                (bif Nat.blt pc 251 then
                  (bif Nat.beq pc 250 then some (.istore_n 3, 3, 0, 0, 0) else none)
                else
                  bif Nat.beq pc 251 then some (.iinc 5 1, 5, 0, 0, 1) else none)
              else
                bif Nat.blt pc 257 then
                  (bif Nat.beq pc 254 then some (.goto (-33), 221, 0, 0, 0) else none)
                else
                  bif Nat.beq pc 257 then some (.aload_n 0, 0, 0, 0, 0) else none)
        else
          bif Nat.blt pc 271 then
            (bif Nat.blt pc 265 then
              (bif Nat.blt pc 261 then
                (bif Nat.beq pc 258 then some (.getfield 162, 10, 44, 0, 0) else none)
              else
                bif Nat.blt pc 264 then
                  (bif Nat.beq pc 261 then some (.ifCond .ne (5), 266, 0, 0, 0) else none)
                else
                  bif Nat.beq pc 264 then some (.iconst (-1), 0, 0, 0, -1) else none)
            else
              bif Nat.blt pc 267 then
                (bif Nat.blt pc 266 then
                  (bif Nat.beq pc 265 then some (.ireturn, 0, 0, 0, 0) else none)
                else
                  bif Nat.beq pc 266 then some (.aload_n 0, 0, 0, 0, 0) else none)
              else
                bif Nat.blt pc 270 then
                  (bif Nat.beq pc 267 then some (.getfield 98, 10, 33, 1, 0) else none)
                else
                  bif Nat.beq pc 270 then some (.iload_n 2, 2, 0, 0, 0) else none)
          else
            bif Nat.blt pc 274 then
              (bif Nat.blt pc 272 then
                (bif Nat.beq pc 271 then some (.iconst 0, 0, 0, 0, 0) else none)
              else
                bif Nat.blt pc 273 then
                  (bif Nat.beq pc 272 then some (.iastore, 0, 0, 0, 0) else none)
                else
                  bif Nat.beq pc 273 then some (.aload_n 0, 0, 0, 0, 0) else none)
            else
              bif Nat.blt pc 278 then
                (bif Nat.blt pc 277 then
                  (bif Nat.beq pc 274 then some (.getfield 101, 10, 34, 1, 0) else none)
                else
                  bif Nat.beq pc 277 then some (.iload_n 2, 2, 0, 0, 0) else none)
              else
                bif Nat.blt pc 279 then
                  (bif Nat.beq pc 278 then some (.iload_n 3, 3, 0, 0, 0) else none)
                else
                  bif Nat.beq pc 279 then some (.ifCond .eq (7), 286, 0, 0, 0) else none)
    else
      bif Nat.blt pc 323 then
        (bif Nat.blt pc 304 then
          (bif Nat.blt pc 293 then
            (bif Nat.blt pc 287 then
              (bif Nat.blt pc 283 then
                (bif Nat.beq pc 282 then some (.iconst 1, 0, 0, 0, 1) else none)
              else
                bif Nat.blt pc 286 then
                  (bif Nat.beq pc 283 then some (.goto 4, 287, 0, 0, 0) else none)
                else
                  bif Nat.beq pc 286 then some (.iconst 0, 0, 0, 0, 0) else none)
            else
              bif Nat.blt pc 289 then
                (bif Nat.blt pc 288 then
                  (bif Nat.beq pc 287 then some (.iastore, 0, 0, 0, 0) else none)
                else
                  bif Nat.beq pc 288 then some (.iload_n 3, 3, 0, 0, 0) else none)
              else
                bif Nat.blt pc 292 then
                  (bif Nat.beq pc 289 then some (.ifCond .eq (17), 306, 0, 0, 0) else none)
                else
                  bif Nat.beq pc 292 then some (.aload_n 0, 0, 0, 0, 0) else none)
          else
            bif Nat.blt pc 298 then
              (bif Nat.blt pc 296 then
                (bif Nat.beq pc 293 then some (.getfield 77, 10, 26, 1, 0) else none)
              else
                bif Nat.blt pc 297 then
                  (bif Nat.beq pc 296 then some (.iload_n 1, 1, 0, 0, 0) else none)
                else
                  bif Nat.beq pc 297 then some (.iconst 0, 0, 0, 0, 0) else none)
            else
              bif Nat.blt pc 300 then
                (bif Nat.blt pc 299 then
                  (bif Nat.beq pc 298 then some (.iastore, 0, 0, 0, 0) else none)
                else
                  bif Nat.beq pc 299 then some (.aload_n 0, 0, 0, 0, 0) else none)
              else
                bif Nat.blt pc 303 then
                  (bif Nat.beq pc 300 then some (.getfield 92, 10, 31, 1, 0) else none)
                else
                  bif Nat.beq pc 303 then some (.iload_n 1, 1, 0, 0, 0) else none)
        else
          bif Nat.blt pc 315 then
            (bif Nat.blt pc 307 then
              (bif Nat.blt pc 305 then
                (bif Nat.beq pc 304 then some (.iconst 0, 0, 0, 0, 0) else none)
              else
                bif Nat.blt pc 306 then
                  (bif Nat.beq pc 305 then some (.bastore, 0, 0, 0, 0) else none)
                else
                  bif Nat.beq pc 306 then some (.aload_n 0, 0, 0, 0, 0) else none)
            else
              bif Nat.blt pc 311 then
                (bif Nat.blt pc 310 then
                  (bif Nat.beq pc 307 then some (.getfield 116, 10, 40, 1, 0) else none)
                else
                  bif Nat.beq pc 310 then some (.iconst 0, 0, 0, 0, 0) else none)
              else
                bif Nat.blt pc 312 then
                  (bif Nat.beq pc 311 then some (.aload_n 0, 0, 0, 0, 0) else none)
                else
                  bif Nat.beq pc 312 then some (.getfield 65, 10, 22, 1, 0) else none)
          else
            bif Nat.blt pc 319 then
              (bif Nat.blt pc 316 then
                (bif Nat.beq pc 315 then some (.iload_n 1, 1, 0, 0, 0) else none)
              else
                bif Nat.blt pc 317 then
                  (bif Nat.beq pc 316 then some (.iaload, 0, 0, 0, 0) else none)
                else
                  bif Nat.beq pc 317 then some (.bipush 16, 0, 0, 0, 16) else none)
            else
              bif Nat.blt pc 321 then
                (bif Nat.blt pc 320 then
                  (bif Nat.beq pc 319 then some (.irem, 0, 0, 0, 0) else none)
                else
                  bif Nat.beq pc 320 then some (.iastore, 0, 0, 0, 0) else none)
              else
                bif Nat.blt pc 322 then
                  (bif Nat.beq pc 321 then some (.aload_n 0, 0, 0, 0, 0) else none)
                else
                  bif Nat.beq pc 322 then some (.iload_n 1, 1, 0, 0, 0) else none)
      else
        bif Nat.blt pc 345 then
          (bif Nat.blt pc 334 then
            (bif Nat.blt pc 328 then
              (bif Nat.blt pc 324 then
                (bif Nat.beq pc 323 then some (.aload_n 0, 0, 0, 0, 0) else none)
              else
                bif Nat.blt pc 327 then
                  (bif Nat.beq pc 324 then some (.getfield 65, 10, 22, 1, 0) else none)
                else
                  bif Nat.beq pc 327 then some (.iload_n 1, 1, 0, 0, 0) else none)
            else
              bif Nat.blt pc 330 then
                (bif Nat.blt pc 329 then
                  (bif Nat.beq pc 328 then some (.iaload, 0, 0, 0, 0) else none)
                else
                  bif Nat.beq pc 329 then some (.aload_n 0, 0, 0, 0, 0) else none)
              else
                bif Nat.blt pc 333 then
                  (bif Nat.beq pc 330 then some (.getfield 162, 10, 44, 0, 0) else none)
                else
                  bif Nat.beq pc 333 then some (.iconst 3, 0, 0, 0, 3) else none)
          else
            bif Nat.blt pc 339 then
              (bif Nat.blt pc 335 then
                (bif Nat.beq pc 334 then some (.iadd, 0, 0, 0, 0) else none)
              else
                bif Nat.blt pc 338 then
                  (bif Nat.beq pc 335 then some (.invokevirtual 207, 124, 4, 0, 0) else none)
                else
                  bif Nat.beq pc 338 then some (.aload_n 0, 0, 0, 0, 0) else none)
            else
              bif Nat.blt pc 343 then
                (bif Nat.blt pc 342 then
                  (bif Nat.beq pc 339 then some (.getfield 65, 10, 22, 1, 0) else none)
                else
                  bif Nat.beq pc 342 then some (.iload_n 1, 1, 0, 0, 0) else none)
              else
                bif Nat.blt pc 344 then
                  (bif Nat.beq pc 343 then some (.dup2, 0, 0, 0, 0) else none)
                else
                  bif Nat.beq pc 344 then some (.iaload, 0, 0, 0, 0) else none)
        else
          bif Nat.blt pc 354 then
            (bif Nat.blt pc 348 then
              (bif Nat.blt pc 346 then
                (bif Nat.beq pc 345 then some (.iconst 1, 0, 0, 0, 1) else none)
              else
                bif Nat.blt pc 347 then
                  (bif Nat.beq pc 346 then some (.iadd, 0, 0, 0, 0) else none)
                else
                  bif Nat.beq pc 347 then some (.iastore, 0, 0, 0, 0) else none)
            else
              bif Nat.blt pc 350 then
                (bif Nat.blt pc 349 then
                  (bif Nat.beq pc 348 then some (.aload_n 0, 0, 0, 0, 0) else none)
                else
                  bif Nat.beq pc 349 then some (.iload_n 1, 1, 0, 0, 0) else none)
              else
                bif Nat.blt pc 351 then
                  (bif Nat.beq pc 350 then some (.aload_n 0, 0, 0, 0, 0) else none)
                else
                  bif Nat.beq pc 351 then some (.getfield 162, 10, 44, 0, 0) else none)
          else
            bif Nat.blt pc 360 then
              (bif Nat.blt pc 356 then
                (bif Nat.blt pc 355 then
                  (bif Nat.beq pc 354 then some (.iconst 3, 0, 0, 0, 3) else none)
                else
                  bif Nat.beq pc 355 then some (.iadd, 0, 0, 0, 0) else none)
              else
                bif Nat.blt pc 359 then
                  (bif Nat.beq pc 356 then some (.invokevirtual 210, 125, 3, 0, 0) else none)
                else
                  bif Nat.beq pc 359 then some (.aload_n 0, 0, 0, 0, 0) else none)
            else
              bif Nat.blt pc 364 then
                (bif Nat.blt pc 363 then
                  (bif Nat.beq pc 360 then some (.getfield 162, 10, 44, 0, 0) else none)
                else
                  bif Nat.beq pc 363 then some (.iconst 3, 0, 0, 0, 3) else none)
              else
                bif Nat.blt pc 365 then
                  (bif Nat.beq pc 364 then some (.iadd, 0, 0, 0, 0) else none)
                else
                  bif Nat.beq pc 365 then some (.ireturn, 0, 0, 0, 0) else none
def i_M_send : Nat → Option Ent := ab_tab 366 t_M_send
def h_M_send (pc : Nat) : Nat × List Bool := bif Nat.beq pc 46 then (1, [true, true, true, true, true, false]) else bif Nat.beq pc 130 then (1, [true, true, true, false, false, false]) else bif Nat.beq pc 145 then (1, [true, true, true, true, true, true]) else bif Nat.beq pc 170 then (1, [true, true, true, true, false, true]) else bif Nat.beq pc 175 then (1, [true, true, true, true, false, true]) else bif Nat.beq pc 216 then (1, [true, true, true, true, false, false]) else bif Nat.beq pc 221 then (1, [true, true, true, true, false, true]) else bif Nat.beq pc 251 then (1, [true, true, true, true, false, true]) else bif Nat.beq pc 257 then (1, [true, true, true, true, false, false]) else bif Nat.beq pc 287 then (1, [true, true, false, true, false, false]) else bif Nat.beq pc 306 then (1, [true, true, false, false, false, false]) else (0, [])
def s_M_send (pc : Nat) : List (Int32 × Nat) × Nat := ([], 0)
noncomputable def eV_M_send : Nat → List AV → Mm → Option Mm := ab_ev [(110, c_M_put), (111, c_M_putNumber), (119, c_M_putAck), (122, c_M_putStream), (124, c_M_seal), (125, c_M_launch)]
noncomputable def eI_M_send : Nat → List AV → Mm → Option (Int32 × Mm) := ab_ev [(104, c_M_in), (123, c_M_putSmall), (121, c_M_plans), (112, c_M_fits)]
noncomputable def b_M_send_0 (f : Nat) (v0 : Nat) (v1 : Int32) (m : Mm) : Option Rs := ab_ex KT none s_M_send eV_M_send eI_M_send i_M_send h_M_send f 0 [some (.inr (.inr (28, some v0))), some (.inl v1), none, none, none, none] [] m
noncomputable def b_M_send_46 (f : Nat) (v0 : Nat) (v1 : Int32) (v2 : Int32) (v3 : Int32) (v4 : Int32) (m : Mm) : Option Rs := ab_ex KT none s_M_send eV_M_send eI_M_send i_M_send h_M_send f 46 [some (.inr (.inr (28, some v0))), some (.inl v1), some (.inl v2), some (.inl v3), some (.inl v4), none] [] m
noncomputable def b_M_send_130 (f : Nat) (v0 : Nat) (v1 : Int32) (v2 : Int32) (m : Mm) : Option Rs := ab_ex KT none s_M_send eV_M_send eI_M_send i_M_send h_M_send f 130 [some (.inr (.inr (28, some v0))), some (.inl v1), some (.inl v2), none, none, none] [] m
noncomputable def b_M_send_145 (f : Nat) (v0 : Nat) (v1 : Int32) (v2 : Int32) (v3 : Int32) (v4 : Int32) (v5 : Int32) (m : Mm) : Option Rs := ab_ex KT none s_M_send eV_M_send eI_M_send i_M_send h_M_send f 145 [some (.inr (.inr (28, some v0))), some (.inl v1), some (.inl v2), some (.inl v3), some (.inl v4), some (.inl v5)] [] m
noncomputable def b_M_send_170 (f : Nat) (v0 : Nat) (v1 : Int32) (v2 : Int32) (v3 : Int32) (v5 : Int32) (m : Mm) : Option Rs := ab_ex KT none s_M_send eV_M_send eI_M_send i_M_send h_M_send f 170 [some (.inr (.inr (28, some v0))), some (.inl v1), some (.inl v2), some (.inl v3), none, some (.inl v5)] [] m
noncomputable def b_M_send_175 (f : Nat) (v0 : Nat) (v1 : Int32) (v2 : Int32) (v3 : Int32) (v5 : Int32) (u0 : Int32) (m : Mm) : Option Rs := ab_ex KT none s_M_send eV_M_send eI_M_send i_M_send h_M_send f 175 [some (.inr (.inr (28, some v0))), some (.inl v1), some (.inl v2), some (.inl v3), none, some (.inl v5)] [.inl u0] m
noncomputable def b_M_send_216 (f : Nat) (v0 : Nat) (v1 : Int32) (v2 : Int32) (v3 : Int32) (m : Mm) : Option Rs := ab_ex KT none s_M_send eV_M_send eI_M_send i_M_send h_M_send f 216 [some (.inr (.inr (28, some v0))), some (.inl v1), some (.inl v2), some (.inl v3), none, none] [] m
noncomputable def b_M_send_221 (f : Nat) (v0 : Nat) (v1 : Int32) (v2 : Int32) (v3 : Int32) (v5 : Int32) (m : Mm) : Option Rs := ab_ex KT none s_M_send eV_M_send eI_M_send i_M_send h_M_send f 221 [some (.inr (.inr (28, some v0))), some (.inl v1), some (.inl v2), some (.inl v3), none, some (.inl v5)] [] m
noncomputable def b_M_send_251 (f : Nat) (v0 : Nat) (v1 : Int32) (v2 : Int32) (v3 : Int32) (v5 : Int32) (m : Mm) : Option Rs := ab_ex KT none s_M_send eV_M_send eI_M_send i_M_send h_M_send f 251 [some (.inr (.inr (28, some v0))), some (.inl v1), some (.inl v2), some (.inl v3), none, some (.inl v5)] [] m
noncomputable def b_M_send_257 (f : Nat) (v0 : Nat) (v1 : Int32) (v2 : Int32) (v3 : Int32) (m : Mm) : Option Rs := ab_ex KT none s_M_send eV_M_send eI_M_send i_M_send h_M_send f 257 [some (.inr (.inr (28, some v0))), some (.inl v1), some (.inl v2), some (.inl v3), none, none] [] m
noncomputable def b_M_send_287 (f : Nat) (v0 : Nat) (v1 : Int32) (v3 : Int32) (u0 : Nat) (u1 : Int32) (u2 : Int32) (m : Mm) : Option Rs := ab_ex KT none s_M_send eV_M_send eI_M_send i_M_send h_M_send f 287 [some (.inr (.inr (28, some v0))), some (.inl v1), none, some (.inl v3), none, none] [.inl u2, .inl u1, .inr (.inr (59, some u0))] m
noncomputable def b_M_send_306 (f : Nat) (v0 : Nat) (v1 : Int32) (m : Mm) : Option Rs := ab_ex KT none s_M_send eV_M_send eI_M_send i_M_send h_M_send f 306 [some (.inr (.inr (28, some v0))), some (.inl v1), none, none, none, none] [] m
set_option maxRecDepth 100000 in
set_option maxHeartbeats 4000000 in
theorem b_M_send_0_eq (f : Nat) (v0 : Nat) (v1 : Int32) (m : Mm) : b_M_send_0 (f + 1) v0 v1 m =
    ab_let (ab_uI m 84 v0 0 (0 : Int32)) fun m1 =>
    (r_M_in v1 (0 : Int32) (1 : Int32) m1).bind fun z2 =>
    if z2.1 = 0 then
      some (.inl (some (.inl (-1 : Int32)), z2.2))
    else
      (ab_ix v1 2).bind fun i3 =>
      ab_let ((((560 : Int32) * v1) + (z2.2.1 151 (v0 + 19) i3))) fun x4 =>
      ab_let (ab_uI z2.2 125 v0 0 (0 : Int32)) fun m5 =>
      (ab_ix x4 1120).bind fun i6 =>
      ab_let (ab_uI m5 164 (v0 + 32) i6 (-1 : Int32)) fun m7 =>
      b_M_send_46 f v0 v1 x4 (0 : Int32) (0 : Int32) m7 := rfl
set_option maxRecDepth 100000 in
set_option maxHeartbeats 4000000 in
theorem b_M_send_46_eq (f : Nat) (v0 : Nat) (v1 : Int32) (v2 : Int32) (v3 : Int32) (v4 : Int32) (m : Mm) : b_M_send_46 (f + 1) v0 v1 v2 v3 v4 m =
    if (4 : Int32) ≤ v4 then
      (ab_ix v1 2).bind fun i1 =>
      if (m.1 154 (v0 + 22) i1) < 0 then
        (ab_ix v1 2).bind fun i2 =>
        if (m.1 158 (v0 + 26) i2) = 0 then
          b_M_send_130 f v0 v1 v2 m
        else
          (r_M_putAck v0 v1 m).bind fun m3 =>
          b_M_send_130 f v0 v1 v2 m3
      else
        (ab_ix v1 2).bind fun i4 =>
        if (m.1 159 (v0 + 27) i4) = 0 then
          some (.inl (some (.inl (-1 : Int32)), m))
        else
          (ab_ix v1 2).bind fun i5 =>
          (ab_bo (0 : Int32)).bind fun y7 =>
          ab_let (ab_uI m 159 (v0 + 27) i5 y7) fun m6 =>
          (r_M_put v0 (6 : Int32) m6).bind fun m8 =>
          (ab_ix v1 2).bind fun i9 =>
          (r_M_putNumber v0 (m8.1 154 (v0 + 22) i9) m8).bind fun m10 =>
          b_M_send_257 f v0 v1 v2 v3 m10
    else
      (ab_ix (((4 : Int32) * v2) + v4) 4480).bind fun i11 =>
      ab_let (ab_uI m 165 (v0 + 33) i11 (0 : Int32)) fun m12 =>
      ab_let (v4 + (1 : Int32)) fun x13 =>
      b_M_send_46 f v0 v1 v2 v3 x13 m12 := rfl
set_option maxRecDepth 100000 in
set_option maxHeartbeats 4000000 in
theorem b_M_send_130_eq (f : Nat) (v0 : Nat) (v1 : Int32) (v2 : Int32) (m : Mm) : b_M_send_130 (f + 1) v0 v1 v2 m =
    (r_M_putSmall v0 v1 v2 m).bind fun z1 =>
    ab_let (((4 : Int32) * v1)) fun x2 =>
    b_M_send_145 f v0 v1 v2 z1.1 (0 : Int32) x2 z1.2 := rfl
set_option maxRecDepth 100000 in
set_option maxHeartbeats 4000000 in
theorem b_M_send_145_eq (f : Nat) (v0 : Nat) (v1 : Int32) (v2 : Int32) (v3 : Int32) (v4 : Int32) (v5 : Int32) (m : Mm) : b_M_send_145 (f + 1) v0 v1 v2 v3 v4 v5 m =
    if (((4 : Int32) * v1) + (4 : Int32)) ≤ v5 then
      (ab_ix v1 2).bind fun i1 =>
      if (m.1 160 (v0 + 28) i1) = 0 then
        b_M_send_216 f v0 v1 v2 v3 m
      else
        if v3 = 0 then
          if v4 = 0 then
            (r_M_fits v0 (1 : Int32) m).bind fun z2 =>
            if z2.1 = 0 then
              b_M_send_216 f v0 v1 v2 v3 z2.2
            else
              (r_M_put v0 (0 : Int32) z2.2).bind fun m3 =>
              b_M_send_216 f v0 v1 v2 (1 : Int32) m3
          else
            b_M_send_216 f v0 v1 v2 v3 m
        else
          b_M_send_216 f v0 v1 v2 v3 m
    else
      if v4 = 0 then
        (r_M_plans v0 v1 v5 m).bind fun z4 =>
        if z4.1 = 0 then
          b_M_send_175 f v0 v1 v2 v3 v5 (0 : Int32) z4.2
        else
          b_M_send_170 f v0 v1 v2 v3 v5 z4.2
      else
        b_M_send_170 f v0 v1 v2 v3 v5 m := rfl
set_option maxRecDepth 100000 in
set_option maxHeartbeats 4000000 in
theorem b_M_send_170_eq (f : Nat) (v0 : Nat) (v1 : Int32) (v2 : Int32) (v3 : Int32) (v5 : Int32) (m : Mm) : b_M_send_170 (f + 1) v0 v1 v2 v3 v5 m =
    b_M_send_175 f v0 v1 v2 v3 v5 (1 : Int32) m := rfl
set_option maxRecDepth 100000 in
set_option maxHeartbeats 4000000 in
theorem b_M_send_175_eq (f : Nat) (v0 : Nat) (v1 : Int32) (v2 : Int32) (v3 : Int32) (v5 : Int32) (u0 : Int32) (m : Mm) : b_M_send_175 (f + 1) v0 v1 v2 v3 v5 u0 m =
    ab_let (v5 + (1 : Int32)) fun x1 =>
    b_M_send_145 f v0 v1 v2 v3 u0 x1 m := rfl
set_option maxRecDepth 100000 in
set_option maxHeartbeats 4000000 in
theorem b_M_send_216_eq (f : Nat) (v0 : Nat) (v1 : Int32) (v2 : Int32) (v3 : Int32) (m : Mm) : b_M_send_216 (f + 1) v0 v1 v2 v3 m =
    ab_let (((4 : Int32) * v1)) fun x1 =>
    b_M_send_221 f v0 v1 v2 v3 x1 m := rfl
set_option maxRecDepth 100000 in
set_option maxHeartbeats 4000000 in
theorem b_M_send_221_eq (f : Nat) (v0 : Nat) (v1 : Int32) (v2 : Int32) (v3 : Int32) (v5 : Int32) (m : Mm) : b_M_send_221 (f + 1) v0 v1 v2 v3 v5 m =
    if (((4 : Int32) * v1) + (4 : Int32)) ≤ v5 then
      b_M_send_257 f v0 v1 v2 v3 m
    else
      (r_M_plans v0 v1 v5 m).bind fun z1 =>
      if z1.1 = 0 then
        b_M_send_251 f v0 v1 v2 v3 v5 z1.2
      else
        (r_M_putStream v0 v1 v5 v2 z1.2).bind fun m2 =>
        b_M_send_251 f v0 v1 v2 (1 : Int32) v5 m2 := rfl
set_option maxRecDepth 100000 in
set_option maxHeartbeats 4000000 in
theorem b_M_send_251_eq (f : Nat) (v0 : Nat) (v1 : Int32) (v2 : Int32) (v3 : Int32) (v5 : Int32) (m : Mm) : b_M_send_251 (f + 1) v0 v1 v2 v3 v5 m =
    ab_let (v5 + (1 : Int32)) fun x1 =>
    b_M_send_221 f v0 v1 v2 v3 x1 m := rfl
set_option maxRecDepth 100000 in
set_option maxHeartbeats 4000000 in
theorem b_M_send_257_eq (f : Nat) (v0 : Nat) (v1 : Int32) (v2 : Int32) (v3 : Int32) (m : Mm) : b_M_send_257 (f + 1) v0 v1 v2 v3 m =
    if (m.1 125 v0 0) = 0 then
      some (.inl (some (.inl (-1 : Int32)), m))
    else
      (ab_ix v2 1120).bind fun i1 =>
      ab_let (ab_uI m 162 (v0 + 30) i1 (0 : Int32)) fun m2 =>
      if v3 = 0 then
        b_M_send_287 f v0 v1 v3 (v0 + 31) v2 (0 : Int32) m2
      else
        b_M_send_287 f v0 v1 v3 (v0 + 31) v2 (1 : Int32) m2 := rfl
set_option maxRecDepth 100000 in
set_option maxHeartbeats 4000000 in
theorem b_M_send_287_eq (f : Nat) (v0 : Nat) (v1 : Int32) (v3 : Int32) (u0 : Nat) (u1 : Int32) (u2 : Int32) (m : Mm) : b_M_send_287 (f + 1) v0 v1 v3 u0 u1 u2 m =
    (ab_ix u1 1120).bind fun i1 =>
    ab_let (ab_uI m 163 u0 i1 u2) fun m2 =>
    if v3 = 0 then
      b_M_send_306 f v0 v1 m2
    else
      (ab_ix v1 2).bind fun i3 =>
      ab_let (ab_uI m2 155 (v0 + 23) i3 (0 : Int32)) fun m4 =>
      (ab_ix v1 2).bind fun i5 =>
      (ab_bo (0 : Int32)).bind fun y7 =>
      ab_let (ab_uI m4 160 (v0 + 28) i5 y7) fun m6 =>
      b_M_send_306 f v0 v1 m6 := rfl
set_option maxRecDepth 100000 in
set_option maxHeartbeats 4000000 in
theorem b_M_send_306_eq (f : Nat) (v0 : Nat) (v1 : Int32) (m : Mm) : b_M_send_306 (f + 1) v0 v1 m =
    (ab_ix v1 2).bind fun i1 =>
    if (16 : Int32) = 0 then none else
    (ab_ix (0 : Int32) 48).bind fun i2 =>
    ab_let (ab_uI m 168 (v0 + 36) i2 ((m.1 151 (v0 + 19) i1) - (m.1 151 (v0 + 19) i1) / (16 : Int32) * (16 : Int32))) fun m3 =>
    (ab_ix v1 2).bind fun i4 =>
    (r_M_seal v0 v1 (m3.1 151 (v0 + 19) i4) ((m3.1 125 v0 0) + (3 : Int32)) m3).bind fun m5 =>
    (ab_ix v1 2).bind fun i6 =>
    (ab_ix v1 2).bind fun i7 =>
    ab_let (ab_uI m5 151 (v0 + 19) i7 ((m5.1 151 (v0 + 19) i6) + (1 : Int32))) fun m8 =>
    (r_M_launch v0 v1 ((m8.1 125 v0 0) + (3 : Int32)) m8).bind fun m9 =>
    some (.inl (some (.inl ((m9.1 125 v0 0) + (3 : Int32))), m9)) := rfl
noncomputable def r_M_send : Nat → Int32 → Mm → Option (Int32 × Mm) := ab_seal fun v0 v1 m => ab_rI (b_M_send_0 50000 v0 v1 m)
theorem r_M_send_eq (v0 : Nat) (v1 : Int32) (m : Mm) : r_M_send v0 v1 m = ab_rI (b_M_send_0 50000 v0 v1 m) := by
  unfold r_M_send
  rw [ab_seal_eq]
noncomputable def c_M_send : List AV → Mm → Option (Int32 × Mm) := fun av m => match av with
  | [.inr (.inr (kv0, ov0)), .inl v1] => if kv0 = 28 then (ov0.bind fun v0 => r_M_send v0 v1 m) else none
  | _ => none
theorem c_M_send_inv {av : List AV} {m : Mm} {r : Int32 × Mm} (h : c_M_send av m = some r) : ∃ (v0 : Nat) (v1 : Int32), av = [.inr (.inr (28, some v0)), .inl v1] ∧ r_M_send v0 v1 m = some r := by
  unfold c_M_send at h
  split at h
  · rename_i kv0 ov0 v1
    by_cases hkv0 : kv0 = 28
    case neg => rw [if_neg hkv0] at h; cases h
    rw [if_pos hkv0] at h
    subst hkv0
    obtain ⟨v0, hev0, h⟩ := Option.bind_eq_some_iff.mp h
    subst hev0
    exact ⟨v0, v1, rfl, h⟩
  · cases h
def cs_M_send : List Nat := [8, 100, 110, 127, 133, 164, 203, 211, 235, 246, 335, 356]
set_option maxRecDepth 100000 in
theorem E_M_send : ∀ (pc : Nat) (q : Ent), i_M_send pc = some q → ab_E KT CL ab_gW "StreamTransportModel" "send" (some .int) prog_12_method_24_code s_M_send 6 pc q.1 q.2.1 q.2.2.1 q.2.2.2.1 q.2.2.2.2 := fun pc q hq =>
  ab_Eb_ok lc_M lj_M fl_M (fpn_M "send") nw_M na_M nq_M (ab_tab_all (t := t_M_send) (chk := fun pc q => ab_Eb (some .int) prog_12_method_24_code s_M_send 6 LC_M LJ_M FL_M FPn_M NW_M NA_M NQ_M pc q.1 q.2.1 q.2.2.1 q.2.2.2.1 q.2.2.2.2) (by decide +kernel) hq)
set_option maxRecDepth 100000 in
theorem kp_M_send {av : List AV} {m : Mm} {r : Int32 × Mm} (h : c_M_send av m = some r) : ab_kp m r.2 := by
  obtain ⟨v0, v1, -, h⟩ := c_M_send_inv h
  rw [r_M_send_eq] at h
  have hV : ∀ a av m m', eV_M_send a av m = some m' → ab_kp m m' := ab_ev_all (P := fun _ m r => ab_kp m r) [(110, c_M_put), (111, c_M_putNumber), (119, c_M_putAck), (122, c_M_putStream), (124, c_M_seal), (125, c_M_launch)] (List.forall_mem_cons.mpr ⟨fun av m r h => kp_M_put h, List.forall_mem_cons.mpr ⟨fun av m r h => kp_M_putNumber h, List.forall_mem_cons.mpr ⟨fun av m r h => kp_M_putAck h, List.forall_mem_cons.mpr ⟨fun av m r h => kp_M_putStream h, List.forall_mem_cons.mpr ⟨fun av m r h => kp_M_seal h, List.forall_mem_cons.mpr ⟨fun av m r h => kp_M_launch h, fun q hq => by cases hq⟩⟩⟩⟩⟩⟩)
  have hI : ∀ a av m q, eI_M_send a av m = some q → ab_kp m q.2 := ab_ev_all (P := fun _ (m : Mm) (r : Int32 × Mm) => ab_kp m r.2) [(104, c_M_in), (123, c_M_putSmall), (121, c_M_plans), (112, c_M_fits)] (List.forall_mem_cons.mpr ⟨fun av m r h => kp_M_in h, List.forall_mem_cons.mpr ⟨fun av m r h => kp_M_putSmall h, List.forall_mem_cons.mpr ⟨fun av m r h => kp_M_plans h, List.forall_mem_cons.mpr ⟨fun av m r h => kp_M_fits h, fun q hq => by cases hq⟩⟩⟩⟩)
  exact ab_kprel (ρ := .inl (some (.inl r.1), r.2)) (ab_tab_isn (t := t_M_send) (by decide +kernel)) hV hI (ab_rI_inv h)
set_option maxRecDepth 100000 in
theorem cl_M_send (l : Launch) : ∀ (pc : Nat) (q : Ent), i_M_send pc = some q → ab_inv q.1 = true → ab_CR l KT CL none ab_gW "StreamTransportModel" prog_12_method_24_code 6 3 67 eV_M_send eI_M_send pc q := by
  intro pc q hq hi
  have hm : pc ∈ cs_M_send := ab_tab_cs (t := t_M_send) (by decide +kernel) hq hi
  simp only [cs_M_send, List.mem_cons, List.not_mem_nil, or_false] at hm
  rcases hm with rfl | rfl | rfl | rfl | rfl | rfl | rfl | rfl | rfl | rfl | rfl | rfl
  · cases (Option.some.inj hq : ((.invokestatic 138, 104, 3, 1, 0) : Ent) = q)
    exact ab_crS (by decide +kernel) cw_M_in (ab_gW_in 1154 (by decide +kernel) rfl) st_M_in (by decide) (fun av m m' h => by cases h) (fun av m r h => cm_M_in l h) KT_nd
  · cases (Option.some.inj hq : ((.invokevirtual 168, 110, 2, 0, 0) : Ent) = q)
    exact ab_crV (C := "StreamTransportModel") (by decide +kernel) cw_M_put (ab_gW_in 1194 (by decide +kernel) rfl) is_M_put sl_M_put (by decide) (fun av m m' h => cm_M_put l h) (fun av m r h => by cases h) KT_nd
  · cases (Option.some.inj hq : ((.invokevirtual 174, 111, 2, 0, 0) : Ent) = q)
    exact ab_crV (C := "StreamTransportModel") (by decide +kernel) cw_M_putNumber (ab_gW_in 1198 (by decide +kernel) rfl) is_M_putNumber sl_M_putNumber (by decide) (fun av m m' h => cm_M_putNumber l h) (fun av m r h => by cases h) KT_nd
  · cases (Option.some.inj hq : ((.invokevirtual 194, 119, 2, 0, 0) : Ent) = q)
    exact ab_crV (C := "StreamTransportModel") (by decide +kernel) cw_M_putAck (ab_gW_in 1205 (by decide +kernel) rfl) is_M_putAck sl_M_putAck (by decide) (fun av m m' h => cm_M_putAck l h) (fun av m r h => by cases h) KT_nd
  · cases (Option.some.inj hq : ((.invokevirtual 197, 123, 3, 1, 0) : Ent) = q)
    exact ab_crV (C := "StreamTransportModel") (by decide +kernel) cw_M_putSmall (ab_gW_in 1213 (by decide +kernel) rfl) is_M_putSmall sl_M_putSmall (by decide) (fun av m m' h => by cases h) (fun av m r h => cm_M_putSmall l h) KT_nd
  · cases (Option.some.inj hq : ((.invokevirtual 200, 121, 3, 1, 0) : Ent) = q)
    exact ab_crV (C := "StreamTransportModel") (by decide +kernel) cw_M_plans (ab_gW_in 1221 (by decide +kernel) rfl) is_M_plans sl_M_plans (by decide) (fun av m m' h => by cases h) (fun av m r h => cm_M_plans l h) KT_nd
  · cases (Option.some.inj hq : ((.invokevirtual 190, 112, 2, 1, 0) : Ent) = q)
    exact ab_crV (C := "StreamTransportModel") (by decide +kernel) cw_M_fits (ab_gW_in 1217 (by decide +kernel) rfl) is_M_fits sl_M_fits (by decide) (fun av m m' h => by cases h) (fun av m r h => cm_M_fits l h) KT_nd
  · cases (Option.some.inj hq : ((.invokevirtual 168, 110, 2, 0, 0) : Ent) = q)
    exact ab_crV (C := "StreamTransportModel") (by decide +kernel) cw_M_put (ab_gW_in 1194 (by decide +kernel) rfl) is_M_put sl_M_put (by decide) (fun av m m' h => cm_M_put l h) (fun av m r h => by cases h) KT_nd
  · cases (Option.some.inj hq : ((.invokevirtual 200, 121, 3, 1, 0) : Ent) = q)
    exact ab_crV (C := "StreamTransportModel") (by decide +kernel) cw_M_plans (ab_gW_in 1221 (by decide +kernel) rfl) is_M_plans sl_M_plans (by decide) (fun av m m' h => by cases h) (fun av m r h => cm_M_plans l h) KT_nd
  · cases (Option.some.inj hq : ((.invokevirtual 203, 122, 4, 0, 0) : Ent) = q)
    exact ab_crV (C := "StreamTransportModel") (by decide +kernel) cw_M_putStream (ab_gW_in 1229 (by decide +kernel) rfl) is_M_putStream sl_M_putStream (by decide) (fun av m m' h => cm_M_putStream l h) (fun av m r h => by cases h) KT_nd
  · cases (Option.some.inj hq : ((.invokevirtual 207, 124, 4, 0, 0) : Ent) = q)
    exact ab_crV (C := "StreamTransportModel") (by decide +kernel) cw_M_seal (ab_gW_in 1233 (by decide +kernel) rfl) is_M_seal sl_M_seal (by decide) (fun av m m' h => cm_M_seal l h) (fun av m r h => by cases h) KT_nd
  · cases (Option.some.inj hq : ((.invokevirtual 210, 125, 3, 0, 0) : Ent) = q)
    exact ab_crV (C := "StreamTransportModel") (by decide +kernel) cw_M_launch (ab_gW_in 1240 (by decide +kernel) rfl) is_M_launch sl_M_launch (by decide) (fun av m m' h => cm_M_launch l h) (fun av m r h => by cases h) KT_nd
theorem cw_M_send : ab_cw y_M_send prog_12_method_24_code 6 1 (some .int) := ⟨ab_gW_in 1193 (by decide +kernel) rfl, ab_gW_in 71 (by decide +kernel) rfl, by decide +kernel, by decide +kernel, by decide +kernel⟩
theorem is_M_send : Cond.instanceMethod y_M_send ∈ ab_gW := ab_gW_in 1191 (by decide +kernel) rfl
theorem sl_M_send : Cond.selects "StreamTransportModel" y_M_send y_M_send ∈ ab_gW := ab_gW_in 1192 (by decide +kernel) rfl
set_option maxRecDepth 100000 in
theorem cm_M_send (l : Launch) {av : List AV} {m : Mm} {r : Int32 × Mm} (h0 : c_M_send av m = some r) : ∃ (k q : Nat) (av' : List AV) (ci : Nat) (fs : List (Nat × Nat × Nat × Nat)) (z : vw_C), av = .inr (.inr (k, some q)) :: av' ∧ av'.length = 1 ∧ k ≠ 0 ∧ KT[k]? = some (.inl (ci, fs)) ∧ CL[ci]? = some z ∧ z.1 = "StreamTransportModel" ∧ ab_nos av' ∧ ab_Met l KT CL y_M_send (Cond.code y_M_send prog_12_method_24_code 6 (some .int) :: ab_gW) 3 67 none av m (some (.inl r.1)) r.2 := by
  obtain ⟨v0, v1, hav, h⟩ := c_M_send_inv h0
  rw [r_M_send_eq] at h
  have hmo : ab_mo m r.2 := ab_kp_mo (kp_M_send h0)
  subst hav
  exact ⟨_, _, _, _, _, _, rfl, rfl, by decide, rfl, rfl, rfl, (by intro v hv q e; subst e; simp at hv), ab_met (by decide +kernel) KT_0 KT_nd KT_k3 E_M_send (cl_M_send l) hmo (Nat.le_of_ble_eq_true rfl) (ab_rI_inv h) (fun v hv => by cases hv; exact ⟨_, rfl⟩)⟩
end
