section
/-! StreamTransportModel.<init>(II)V -/
def y_M_init : MethodName := ⟨"StreamTransportModel", "<init>", "(II)V"⟩
def t_M_init (pc : Nat) : Option Ent :=
  bif Nat.blt pc 234 then
    (bif Nat.blt pc 122 then
      (bif Nat.blt pc 62 then
        (bif Nat.blt pc 31 then
          (bif Nat.blt pc 14 then
            (bif Nat.blt pc 5 then
              (bif Nat.blt pc 1 then
                (bif Nat.beq pc 0 then some (.aload_n 0, 0, 0, 0, 0) else none)
              else
                bif Nat.blt pc 4 then
                  (bif Nat.beq pc 1 then some (.invokespecial 1, 0, 1, 0, 0) else none)
                else
                  bif Nat.beq pc 4 then some (.aload_n 0, 0, 0, 0, 0) else none)
            else
              bif Nat.blt pc 10 then
                (bif Nat.blt pc 8 then
                  (bif Nat.beq pc 5 then some (.sipush 512, 0, 0, 0, 512) else none)
                else
                  bif Nat.beq pc 8 then some (.newarray .int, 29, 0, 0, 0) else none)
              else
                bif Nat.blt pc 13 then
                  (bif Nat.beq pc 10 then some (.putfield 7, 10, 4, 1, 0) else none)
                else
                  bif Nat.beq pc 13 then some (.aload_n 0, 0, 0, 0, 0) else none)
          else
            bif Nat.blt pc 23 then
              (bif Nat.blt pc 19 then
                (bif Nat.blt pc 17 then
                  (bif Nat.beq pc 14 then some (.sipush 512, 0, 0, 0, 512) else none)
                else
                  bif Nat.beq pc 17 then some (.newarray .int, 30, 0, 0, 0) else none)
              else
                bif Nat.blt pc 22 then
                  (bif Nat.beq pc 19 then some (.putfield 13, 10, 5, 1, 0) else none)
                else
                  bif Nat.beq pc 22 then some (.aload_n 0, 0, 0, 0, 0) else none)
            else
              bif Nat.blt pc 27 then
                (bif Nat.blt pc 25 then
                  (bif Nat.beq pc 23 then some (.bipush 8, 0, 0, 0, 8) else none)
                else
                  bif Nat.beq pc 25 then some (.newarray .int, 31, 0, 0, 0) else none)
              else
                bif Nat.blt pc 30 then
                  (bif Nat.beq pc 27 then some (.putfield 16, 10, 6, 1, 0) else none)
                else
                  bif Nat.beq pc 30 then some (.aload_n 0, 0, 0, 0, 0) else none)
        else
          bif Nat.blt pc 46 then
            (bif Nat.blt pc 38 then
              (bif Nat.blt pc 33 then
                (bif Nat.beq pc 31 then some (.bipush 8, 0, 0, 0, 8) else none)
              else
                bif Nat.blt pc 35 then
                  (bif Nat.beq pc 33 then some (.newarray .int, 32, 0, 0, 0) else none)
                else
                  bif Nat.beq pc 35 then some (.putfield 19, 10, 7, 1, 0) else none)
            else
              bif Nat.blt pc 41 then
                (bif Nat.blt pc 39 then
                  (bif Nat.beq pc 38 then some (.aload_n 0, 0, 0, 0, 0) else none)
                else
                  bif Nat.beq pc 39 then some (.bipush 8, 0, 0, 0, 8) else none)
              else
                bif Nat.blt pc 43 then
                  (bif Nat.beq pc 41 then some (.newarray .int, 33, 0, 0, 0) else none)
                else
                  bif Nat.beq pc 43 then some (.putfield 22, 10, 8, 1, 0) else none)
          else
            bif Nat.blt pc 54 then
              (bif Nat.blt pc 49 then
                (bif Nat.blt pc 47 then
                  (bif Nat.beq pc 46 then some (.aload_n 0, 0, 0, 0, 0) else none)
                else
                  bif Nat.beq pc 47 then some (.bipush 8, 0, 0, 0, 8) else none)
              else
                bif Nat.blt pc 51 then
                  (bif Nat.beq pc 49 then some (.newarray .int, 34, 0, 0, 0) else none)
                else
                  bif Nat.beq pc 51 then some (.putfield 25, 10, 9, 1, 0) else none)
            else
              bif Nat.blt pc 57 then
                (bif Nat.blt pc 55 then
                  (bif Nat.beq pc 54 then some (.aload_n 0, 0, 0, 0, 0) else none)
                else
                  bif Nat.beq pc 55 then some (.bipush 8, 0, 0, 0, 8) else none)
              else
                bif Nat.blt pc 59 then
                  (bif Nat.beq pc 57 then some (.newarray .int, 35, 0, 0, 0) else none)
                else
                  bif Nat.beq pc 59 then some (.putfield 28, 10, 10, 1, 0) else none)
      else
        bif Nat.blt pc 92 then
          (bif Nat.blt pc 75 then
            (bif Nat.blt pc 67 then
              (bif Nat.blt pc 63 then
                (bif Nat.beq pc 62 then some (.aload_n 0, 0, 0, 0, 0) else none)
              else
                bif Nat.blt pc 65 then
                  (bif Nat.beq pc 63 then some (.bipush 8, 0, 0, 0, 8) else none)
                else
                  bif Nat.beq pc 65 then some (.newarray .boolean, 36, 0, 0, 0) else none)
            else
              bif Nat.blt pc 71 then
                (bif Nat.blt pc 70 then
                  (bif Nat.beq pc 67 then some (.putfield 31, 10, 11, 1, 0) else none)
                else
                  bif Nat.beq pc 70 then some (.aload_n 0, 0, 0, 0, 0) else none)
              else
                bif Nat.blt pc 73 then
                  (bif Nat.beq pc 71 then some (.bipush 8, 0, 0, 0, 8) else none)
                else
                  bif Nat.beq pc 73 then some (.newarray .boolean, 37, 0, 0, 0) else none)
          else
            bif Nat.blt pc 84 then
              (bif Nat.blt pc 79 then
                (bif Nat.blt pc 78 then
                  (bif Nat.beq pc 75 then some (.putfield 35, 10, 12, 1, 0) else none)
                else
                  bif Nat.beq pc 78 then some (.aload_n 0, 0, 0, 0, 0) else none)
              else
                bif Nat.blt pc 82 then
                  (bif Nat.beq pc 79 then some (.sipush 512, 0, 0, 0, 512) else none)
                else
                  bif Nat.beq pc 82 then some (.newarray .int, 38, 0, 0, 0) else none)
            else
              bif Nat.blt pc 88 then
                (bif Nat.blt pc 87 then
                  (bif Nat.beq pc 84 then some (.putfield 38, 10, 13, 1, 0) else none)
                else
                  bif Nat.beq pc 87 then some (.aload_n 0, 0, 0, 0, 0) else none)
              else
                bif Nat.blt pc 90 then
                  (bif Nat.beq pc 88 then some (.bipush 8, 0, 0, 0, 8) else none)
                else
                  bif Nat.beq pc 90 then some (.newarray .int, 39, 0, 0, 0) else none)
        else
          bif Nat.blt pc 106 then
            (bif Nat.blt pc 98 then
              (bif Nat.blt pc 95 then
                (bif Nat.beq pc 92 then some (.putfield 41, 10, 14, 1, 0) else none)
              else
                bif Nat.blt pc 96 then
                  (bif Nat.beq pc 95 then some (.aload_n 0, 0, 0, 0, 0) else none)
                else
                  bif Nat.beq pc 96 then some (.bipush 8, 0, 0, 0, 8) else none)
            else
              bif Nat.blt pc 103 then
                (bif Nat.blt pc 100 then
                  (bif Nat.beq pc 98 then some (.newarray .int, 40, 0, 0, 0) else none)
                else
                  bif Nat.beq pc 100 then some (.putfield 44, 10, 15, 1, 0) else none)
              else
                bif Nat.blt pc 104 then
                  (bif Nat.beq pc 103 then some (.aload_n 0, 0, 0, 0, 0) else none)
                else
                  bif Nat.beq pc 104 then some (.bipush 8, 0, 0, 0, 8) else none)
          else
            bif Nat.blt pc 114 then
              (bif Nat.blt pc 111 then
                (bif Nat.blt pc 108 then
                  (bif Nat.beq pc 106 then some (.newarray .int, 41, 0, 0, 0) else none)
                else
                  bif Nat.beq pc 108 then some (.putfield 47, 10, 16, 1, 0) else none)
              else
                bif Nat.blt pc 112 then
                  (bif Nat.beq pc 111 then some (.aload_n 0, 0, 0, 0, 0) else none)
                else
                  bif Nat.beq pc 112 then some (.bipush 8, 0, 0, 0, 8) else none)
            else
              bif Nat.blt pc 119 then
                (bif Nat.blt pc 116 then
                  (bif Nat.beq pc 114 then some (.newarray .int, 42, 0, 0, 0) else none)
                else
                  bif Nat.beq pc 116 then some (.putfield 50, 10, 17, 1, 0) else none)
              else
                bif Nat.blt pc 120 then
                  (bif Nat.beq pc 119 then some (.aload_n 0, 0, 0, 0, 0) else none)
                else
                  bif Nat.beq pc 120 then some (.bipush 8, 0, 0, 0, 8) else none)
    else
      bif Nat.blt pc 177 then
        (bif Nat.blt pc 150 then
          (bif Nat.blt pc 136 then
            (bif Nat.blt pc 128 then
              (bif Nat.blt pc 124 then
                (bif Nat.beq pc 122 then some (.newarray .boolean, 43, 0, 0, 0) else none)
              else
                bif Nat.blt pc 127 then
                  (bif Nat.beq pc 124 then some (.putfield 53, 10, 18, 1, 0) else none)
                else
                  bif Nat.beq pc 127 then some (.aload_n 0, 0, 0, 0, 0) else none)
            else
              bif Nat.blt pc 132 then
                (bif Nat.blt pc 130 then
                  (bif Nat.beq pc 128 then some (.bipush 8, 0, 0, 0, 8) else none)
                else
                  bif Nat.beq pc 130 then some (.newarray .boolean, 44, 0, 0, 0) else none)
              else
                bif Nat.blt pc 135 then
                  (bif Nat.beq pc 132 then some (.putfield 56, 10, 19, 1, 0) else none)
                else
                  bif Nat.beq pc 135 then some (.aload_n 0, 0, 0, 0, 0) else none)
          else
            bif Nat.blt pc 143 then
              (bif Nat.blt pc 139 then
                (bif Nat.blt pc 137 then
                  (bif Nat.beq pc 136 then some (.iconst 2, 0, 0, 0, 2) else none)
                else
                  bif Nat.beq pc 137 then some (.newarray .int, 45, 0, 0, 0) else none)
              else
                bif Nat.blt pc 142 then
                  (bif Nat.beq pc 139 then some (.putfield 59, 10, 20, 1, 0) else none)
                else
                  bif Nat.beq pc 142 then some (.aload_n 0, 0, 0, 0, 0) else none)
            else
              bif Nat.blt pc 146 then
                (bif Nat.blt pc 144 then
                  (bif Nat.beq pc 143 then some (.iconst 2, 0, 0, 0, 2) else none)
                else
                  bif Nat.beq pc 144 then some (.newarray .int, 46, 0, 0, 0) else none)
              else
                bif Nat.blt pc 149 then
                  (bif Nat.beq pc 146 then some (.putfield 62, 10, 21, 1, 0) else none)
                else
                  bif Nat.beq pc 149 then some (.aload_n 0, 0, 0, 0, 0) else none)
        else
          bif Nat.blt pc 163 then
            (bif Nat.blt pc 156 then
              (bif Nat.blt pc 151 then
                (bif Nat.beq pc 150 then some (.iconst 2, 0, 0, 0, 2) else none)
              else
                bif Nat.blt pc 153 then
                  (bif Nat.beq pc 151 then some (.newarray .int, 47, 0, 0, 0) else none)
                else
                  bif Nat.beq pc 153 then some (.putfield 65, 10, 22, 1, 0) else none)
            else
              bif Nat.blt pc 158 then
                (bif Nat.blt pc 157 then
                  (bif Nat.beq pc 156 then some (.aload_n 0, 0, 0, 0, 0) else none)
                else
                  bif Nat.beq pc 157 then some (.iconst 2, 0, 0, 0, 2) else none)
              else
                bif Nat.blt pc 160 then
                  (bif Nat.beq pc 158 then some (.newarray .int, 48, 0, 0, 0) else none)
                else
                  bif Nat.beq pc 160 then some (.putfield 68, 10, 23, 1, 0) else none)
          else
            bif Nat.blt pc 170 then
              (bif Nat.blt pc 165 then
                (bif Nat.blt pc 164 then
                  (bif Nat.beq pc 163 then some (.aload_n 0, 0, 0, 0, 0) else none)
                else
                  bif Nat.beq pc 164 then some (.iconst 2, 0, 0, 0, 2) else none)
              else
                bif Nat.blt pc 167 then
                  (bif Nat.beq pc 165 then some (.newarray .int, 49, 0, 0, 0) else none)
                else
                  bif Nat.beq pc 167 then some (.putfield 71, 10, 24, 1, 0) else none)
            else
              bif Nat.blt pc 172 then
                (bif Nat.blt pc 171 then
                  (bif Nat.beq pc 170 then some (.aload_n 0, 0, 0, 0, 0) else none)
                else
                  bif Nat.beq pc 171 then some (.iconst 2, 0, 0, 0, 2) else none)
              else
                bif Nat.blt pc 174 then
                  (bif Nat.beq pc 172 then some (.newarray .int, 50, 0, 0, 0) else none)
                else
                  bif Nat.beq pc 174 then some (.putfield 74, 10, 25, 1, 0) else none)
      else
        bif Nat.blt pc 202 then
          (bif Nat.blt pc 188 then
            (bif Nat.blt pc 181 then
              (bif Nat.blt pc 178 then
                (bif Nat.beq pc 177 then some (.aload_n 0, 0, 0, 0, 0) else none)
              else
                bif Nat.blt pc 179 then
                  (bif Nat.beq pc 178 then some (.iconst 2, 0, 0, 0, 2) else none)
                else
                  bif Nat.beq pc 179 then some (.newarray .int, 51, 0, 0, 0) else none)
            else
              bif Nat.blt pc 185 then
                (bif Nat.blt pc 184 then
                  (bif Nat.beq pc 181 then some (.putfield 77, 10, 26, 1, 0) else none)
                else
                  bif Nat.beq pc 184 then some (.aload_n 0, 0, 0, 0, 0) else none)
              else
                bif Nat.blt pc 186 then
                  (bif Nat.beq pc 185 then some (.iconst 2, 0, 0, 0, 2) else none)
                else
                  bif Nat.beq pc 186 then some (.newarray .int, 52, 0, 0, 0) else none)
          else
            bif Nat.blt pc 195 then
              (bif Nat.blt pc 192 then
                (bif Nat.blt pc 191 then
                  (bif Nat.beq pc 188 then some (.putfield 80, 10, 27, 1, 0) else none)
                else
                  bif Nat.beq pc 191 then some (.aload_n 0, 0, 0, 0, 0) else none)
              else
                bif Nat.blt pc 193 then
                  (bif Nat.beq pc 192 then some (.iconst 2, 0, 0, 0, 2) else none)
                else
                  bif Nat.beq pc 193 then some (.newarray .boolean, 53, 0, 0, 0) else none)
            else
              bif Nat.blt pc 199 then
                (bif Nat.blt pc 198 then
                  (bif Nat.beq pc 195 then some (.putfield 83, 10, 28, 1, 0) else none)
                else
                  bif Nat.beq pc 198 then some (.aload_n 0, 0, 0, 0, 0) else none)
              else
                bif Nat.blt pc 200 then
                  (bif Nat.beq pc 199 then some (.iconst 2, 0, 0, 0, 2) else none)
                else
                  bif Nat.beq pc 200 then some (.newarray .boolean, 54, 0, 0, 0) else none)
        else
          bif Nat.blt pc 216 then
            (bif Nat.blt pc 209 then
              (bif Nat.blt pc 206 then
                (bif Nat.blt pc 205 then
                  (bif Nat.beq pc 202 then some (.putfield 86, 10, 29, 1, 0) else none)
                else
                  bif Nat.beq pc 205 then some (.aload_n 0, 0, 0, 0, 0) else none)
              else
                bif Nat.blt pc 207 then
                  (bif Nat.beq pc 206 then some (.iconst 2, 0, 0, 0, 2) else none)
                else
                  bif Nat.beq pc 207 then some (.newarray .boolean, 55, 0, 0, 0) else none)
            else
              bif Nat.blt pc 213 then
                (bif Nat.blt pc 212 then
                  (bif Nat.beq pc 209 then some (.putfield 89, 10, 30, 1, 0) else none)
                else
                  bif Nat.beq pc 212 then some (.aload_n 0, 0, 0, 0, 0) else none)
              else
                bif Nat.blt pc 214 then
                  (bif Nat.beq pc 213 then some (.iconst 2, 0, 0, 0, 2) else none)
                else
                  bif Nat.beq pc 214 then some (.newarray .boolean, 56, 0, 0, 0) else none)
          else
            bif Nat.blt pc 225 then
              (bif Nat.blt pc 220 then
                (bif Nat.blt pc 219 then
                  (bif Nat.beq pc 216 then some (.putfield 92, 10, 31, 1, 0) else none)
                else
                  bif Nat.beq pc 219 then some (.aload_n 0, 0, 0, 0, 0) else none)
              else
                bif Nat.blt pc 223 then
                  (bif Nat.beq pc 220 then some (.sipush 640, 0, 0, 0, 640) else none)
                else
                  bif Nat.beq pc 223 then some (.newarray .int, 57, 0, 0, 0) else none)
            else
              bif Nat.blt pc 229 then
                (bif Nat.blt pc 228 then
                  (bif Nat.beq pc 225 then some (.putfield 95, 10, 32, 1, 0) else none)
                else
                  bif Nat.beq pc 228 then some (.aload_n 0, 0, 0, 0, 0) else none)
              else
                bif Nat.blt pc 232 then
                  (bif Nat.beq pc 229 then some (.sipush 1120, 0, 0, 0, 1120) else none)
                else
                  bif Nat.beq pc 232 then some (.newarray .int, 58, 0, 0, 0) else none)
  else
    bif Nat.blt pc 349 then
      (bif Nat.blt pc 298 then
        (bif Nat.blt pc 268 then
          (bif Nat.blt pc 250 then
            (bif Nat.blt pc 241 then
              (bif Nat.blt pc 237 then
                (bif Nat.beq pc 234 then some (.putfield 98, 10, 33, 1, 0) else none)
              else
                bif Nat.blt pc 238 then
                  (bif Nat.beq pc 237 then some (.aload_n 0, 0, 0, 0, 0) else none)
                else
                  bif Nat.beq pc 238 then some (.sipush 1120, 0, 0, 0, 1120) else none)
            else
              bif Nat.blt pc 246 then
                (bif Nat.blt pc 243 then
                  (bif Nat.beq pc 241 then some (.newarray .int, 59, 0, 0, 0) else none)
                else
                  bif Nat.beq pc 243 then some (.putfield 101, 10, 34, 1, 0) else none)
              else
                bif Nat.blt pc 247 then
                  (bif Nat.beq pc 246 then some (.aload_n 0, 0, 0, 0, 0) else none)
                else
                  bif Nat.beq pc 247 then some (.sipush 1120, 0, 0, 0, 1120) else none)
          else
            bif Nat.blt pc 259 then
              (bif Nat.blt pc 255 then
                (bif Nat.blt pc 252 then
                  (bif Nat.beq pc 250 then some (.newarray .int, 60, 0, 0, 0) else none)
                else
                  bif Nat.beq pc 252 then some (.putfield 104, 10, 35, 1, 0) else none)
              else
                bif Nat.blt pc 256 then
                  (bif Nat.beq pc 255 then some (.aload_n 0, 0, 0, 0, 0) else none)
                else
                  bif Nat.beq pc 256 then some (.sipush 4480, 0, 0, 0, 4480) else none)
            else
              bif Nat.blt pc 264 then
                (bif Nat.blt pc 261 then
                  (bif Nat.beq pc 259 then some (.newarray .int, 61, 0, 0, 0) else none)
                else
                  bif Nat.beq pc 261 then some (.putfield 107, 10, 36, 1, 0) else none)
              else
                bif Nat.blt pc 265 then
                  (bif Nat.beq pc 264 then some (.aload_n 0, 0, 0, 0, 0) else none)
                else
                  bif Nat.beq pc 265 then some (.sipush 672, 0, 0, 0, 672) else none)
        else
          bif Nat.blt pc 282 then
            (bif Nat.blt pc 274 then
              (bif Nat.blt pc 270 then
                (bif Nat.beq pc 268 then some (.newarray .int, 62, 0, 0, 0) else none)
              else
                bif Nat.blt pc 273 then
                  (bif Nat.beq pc 270 then some (.putfield 110, 10, 38, 1, 0) else none)
                else
                  bif Nat.beq pc 273 then some (.aload_n 0, 0, 0, 0, 0) else none)
            else
              bif Nat.blt pc 278 then
                (bif Nat.blt pc 276 then
                  (bif Nat.beq pc 274 then some (.bipush 48, 0, 0, 0, 48) else none)
                else
                  bif Nat.beq pc 276 then some (.newarray .int, 63, 0, 0, 0) else none)
              else
                bif Nat.blt pc 281 then
                  (bif Nat.beq pc 278 then some (.putfield 113, 10, 39, 1, 0) else none)
                else
                  bif Nat.beq pc 281 then some (.aload_n 0, 0, 0, 0, 0) else none)
          else
            bif Nat.blt pc 290 then
              (bif Nat.blt pc 286 then
                (bif Nat.blt pc 284 then
                  (bif Nat.beq pc 282 then some (.bipush 48, 0, 0, 0, 48) else none)
                else
                  bif Nat.beq pc 284 then some (.newarray .int, 64, 0, 0, 0) else none)
              else
                bif Nat.blt pc 289 then
                  (bif Nat.beq pc 286 then some (.putfield 116, 10, 40, 1, 0) else none)
                else
                  bif Nat.beq pc 289 then some (.aload_n 0, 0, 0, 0, 0) else none)
            else
              bif Nat.blt pc 294 then
                (bif Nat.blt pc 292 then
                  (bif Nat.beq pc 290 then some (.bipush 37, 0, 0, 0, 37) else none)
                else
                  bif Nat.beq pc 292 then some (.newarray .int, 65, 0, 0, 0) else none)
              else
                bif Nat.blt pc 297 then
                  (bif Nat.beq pc 294 then some (.putfield 119, 10, 41, 1, 0) else none)
                else
                  bif Nat.beq pc 297 then some (.aload_n 0, 0, 0, 0, 0) else none)
      else
        bif Nat.blt pc 322 then
          (bif Nat.blt pc 311 then
            (bif Nat.blt pc 304 then
              (bif Nat.blt pc 299 then
                (bif Nat.beq pc 298 then some (.iconst 3, 0, 0, 0, 3) else none)
              else
                bif Nat.blt pc 301 then
                  (bif Nat.beq pc 299 then some (.newarray .int, 66, 0, 0, 0) else none)
                else
                  bif Nat.beq pc 301 then some (.putfield 122, 10, 47, 1, 0) else none)
            else
              bif Nat.blt pc 306 then
                (bif Nat.blt pc 305 then
                  (bif Nat.beq pc 304 then some (.aload_n 0, 0, 0, 0, 0) else none)
                else
                  bif Nat.beq pc 305 then some (.iconst 3, 0, 0, 0, 3) else none)
              else
                bif Nat.blt pc 308 then
                  (bif Nat.beq pc 306 then some (.newarray .int, 67, 0, 0, 0) else none)
                else
                  bif Nat.beq pc 308 then some (.putfield 125, 10, 48, 1, 0) else none)
          else
            bif Nat.blt pc 316 then
              (bif Nat.blt pc 313 then
                (bif Nat.blt pc 312 then
                  (bif Nat.beq pc 311 then some (.aload_n 0, 0, 0, 0, 0) else none)
                else
                  bif Nat.beq pc 312 then some (.iconst 4, 0, 0, 0, 4) else none)
              else
                bif Nat.blt pc 314 then
                  (bif Nat.beq pc 313 then some (.iload_n 1, 1, 0, 0, 0) else none)
                else
                  bif Nat.beq pc 314 then some (.bipush 15, 0, 0, 0, 15) else none)
            else
              bif Nat.blt pc 318 then
                (bif Nat.blt pc 317 then
                  (bif Nat.beq pc 316 then some (.iand, 0, 0, 0, 0) else none)
                else
                  bif Nat.beq pc 317 then some (.iadd, 0, 0, 0, 0) else none)
              else
                bif Nat.blt pc 321 then
                  (bif Nat.beq pc 318 then some (.putfield 128, 10, 0, 0, 0) else none)
                else
                  bif Nat.beq pc 321 then some (.aload_n 0, 0, 0, 0, 0) else none)
        else
          bif Nat.blt pc 334 then
            (bif Nat.blt pc 328 then
              (bif Nat.blt pc 325 then
                (bif Nat.blt pc 324 then
                  (bif Nat.beq pc 322 then some (.bipush 8, 0, 0, 0, 8) else none)
                else
                  bif Nat.beq pc 324 then some (.iload_n 2, 2, 0, 0, 0) else none)
              else
                bif Nat.blt pc 327 then
                  (bif Nat.beq pc 325 then some (.bipush 31, 0, 0, 0, 31) else none)
                else
                  bif Nat.beq pc 327 then some (.iand, 0, 0, 0, 0) else none)
            else
              bif Nat.blt pc 332 then
                (bif Nat.blt pc 329 then
                  (bif Nat.beq pc 328 then some (.iadd, 0, 0, 0, 0) else none)
                else
                  bif Nat.beq pc 329 then some (.putfield 132, 10, 1, 0, 0) else none)
              else
                bif Nat.blt pc 333 then
                  (bif Nat.beq pc 332 then some (.iconst 0, 0, 0, 0, 0) else none)
                else
                  bif Nat.beq pc 333 then some (.istore_n 3, 3, 0, 0, 0) else none)
          else
            bif Nat.blt pc 341 then
              (bif Nat.blt pc 337 then
                (bif Nat.blt pc 335 then
                  (bif Nat.beq pc 334 then some (.iload_n 3, 3, 0, 0, 0) else none)
                else
                  bif Nat.beq pc 335 then some (.bipush 8, 0, 0, 0, 8) else none)
              else
                bif Nat.blt pc 340 then
                  (bif Nat.beq pc 337 then some (.if_icmp .ge (36), 373, 0, 0, 0) else none)
                else
                  bif Nat.beq pc 340 then some (.aload_n 0, 0, 0, 0, 0) else none)
            else
              bif Nat.blt pc 345 then
                (bif Nat.blt pc 344 then
                  (bif Nat.beq pc 341 then some (.getfield 28, 10, 10, 1, 0) else none)
                else
                  bif Nat.beq pc 344 then some (.iload_n 3, 3, 0, 0, 0) else none)
              else
                bif Nat.blt pc 346 then
                  (bif Nat.beq pc 345 then some (.aload_n 0, 0, 0, 0, 0) else none)
                else
                  bif Nat.beq pc 346 then some (.getfield 128, 10, 0, 0, 0) else none)
    else
      bif Nat.blt pc 399 then
        (bif Nat.blt pc 374 then
          (bif Nat.blt pc 360 then
            (bif Nat.blt pc 354 then
              (bif Nat.blt pc 350 then
                (bif Nat.beq pc 349 then some (.iastore, 0, 0, 0, 0) else none)
              else
                bif Nat.blt pc 351 then
                  (bif Nat.beq pc 350 then some (.aload_n 0, 0, 0, 0, 0) else none)
                else
                  bif Nat.beq pc 351 then some (.getfield 50, 10, 17, 1, 0) else none)
            else
              bif Nat.blt pc 356 then
                (bif Nat.blt pc 355 then
                  (bif Nat.beq pc 354 then some (.iload_n 3, 3, 0, 0, 0) else none)
                else
                  bif Nat.beq pc 355 then some (.aload_n 0, 0, 0, 0, 0) else none)
              else
                bif Nat.blt pc 359 then
                  (bif Nat.beq pc 356 then some (.getfield 128, 10, 0, 0, 0) else none)
                else
                  bif Nat.beq pc 359 then some (.iastore, 0, 0, 0, 0) else none)
          else
            bif Nat.blt pc 366 then
              (bif Nat.blt pc 364 then
                (bif Nat.blt pc 361 then
                  (bif Nat.beq pc 360 then some (.aload_n 0, 0, 0, 0, 0) else none)
                else
                  bif Nat.beq pc 361 then some (.getfield 44, 10, 15, 1, 0) else none)
              else
                bif Nat.blt pc 365 then
                  (bif Nat.beq pc 364 then some (.iload_n 3, 3, 0, 0, 0) else none)
                else
                  bif Nat.beq pc 365 then some (.iconst (-1), 0, 0, 0, -1) else none)
            else
              bif Nat.blt pc 370 then
                (bif Nat.blt pc 367 then
                  (bif Nat.beq pc 366 then some (.iastore, 0, 0, 0, 0) else none)
                else
                  bif Nat.beq pc 367 then some (.iinc 3 1, 3, 0, 0, 1) else none)
              else
                bif Nat.blt pc 373 then
                  (bif Nat.beq pc 370 then some (.goto (-36), 334, 0, 0, 0) else none)
                else
                  bif Nat.beq pc 373 then some (.iconst 0, 0, 0, 0, 0) else none)
        else
          bif Nat.blt pc 387 then
            (bif Nat.blt pc 379 then
              (bif Nat.blt pc 375 then
                (bif Nat.beq pc 374 then some (.istore_n 3, 3, 0, 0, 0) else none)
              else
                bif Nat.blt pc 376 then
                  (bif Nat.beq pc 375 then some (.iload_n 3, 3, 0, 0, 0) else none)
                else
                  bif Nat.beq pc 376 then some (.sipush 512, 0, 0, 0, 512) else none)
            else
              bif Nat.blt pc 383 then
                (bif Nat.blt pc 382 then
                  (bif Nat.beq pc 379 then some (.if_icmp .ge (16), 395, 0, 0, 0) else none)
                else
                  bif Nat.beq pc 382 then some (.aload_n 0, 0, 0, 0, 0) else none)
              else
                bif Nat.blt pc 386 then
                  (bif Nat.beq pc 383 then some (.getfield 38, 10, 13, 1, 0) else none)
                else
                  bif Nat.beq pc 386 then some (.iload_n 3, 3, 0, 0, 0) else none)
          else
            bif Nat.blt pc 395 then
              (bif Nat.blt pc 389 then
                (bif Nat.blt pc 388 then
                  (bif Nat.beq pc 387 then some (.iconst (-1), 0, 0, 0, -1) else none)
                else
                  bif Nat.beq pc 388 then some (.iastore, 0, 0, 0, 0) else none)
              else
                bif Nat.blt pc 392 then
                  (bif Nat.beq pc 389 then some (.iinc 3 1, 3, 0, 0, 1) else none)
                else
                  bif Nat.beq pc 392 then some (.goto (-17), 375, 0, 0, 0) else none)
            else
              bif Nat.blt pc 397 then
                (bif Nat.blt pc 396 then
                  (bif Nat.beq pc 395 then some (.iconst 0, 0, 0, 0, 0) else none)
                else
                  bif Nat.beq pc 396 then some (.istore_n 3, 3, 0, 0, 0) else none)
              else
                bif Nat.blt pc 398 then
                  (bif Nat.beq pc 397 then some (.iload_n 3, 3, 0, 0, 0) else none)
                else
                  bif Nat.beq pc 398 then some (.iconst 2, 0, 0, 0, 2) else none)
      else
        bif Nat.blt pc 426 then
          (bif Nat.blt pc 412 then
            (bif Nat.blt pc 406 then
              (bif Nat.blt pc 402 then
                (bif Nat.beq pc 399 then some (.if_icmp .ge (50), 449, 0, 0, 0) else none)
              else
                bif Nat.blt pc 403 then
                  (bif Nat.beq pc 402 then some (.aload_n 0, 0, 0, 0, 0) else none)
                else
                  bif Nat.beq pc 403 then some (.getfield 59, 10, 20, 1, 0) else none)
            else
              bif Nat.blt pc 408 then
                (bif Nat.blt pc 407 then
                  (bif Nat.beq pc 406 then some (.iload_n 3, 3, 0, 0, 0) else none)
                else
                  bif Nat.beq pc 407 then some (.aload_n 0, 0, 0, 0, 0) else none)
              else
                bif Nat.blt pc 411 then
                  (bif Nat.beq pc 408 then some (.getfield 132, 10, 1, 0, 0) else none)
                else
                  bif Nat.beq pc 411 then some (.iastore, 0, 0, 0, 0) else none)
          else
            bif Nat.blt pc 418 then
              (bif Nat.blt pc 416 then
                (bif Nat.blt pc 413 then
                  (bif Nat.beq pc 412 then some (.aload_n 0, 0, 0, 0, 0) else none)
                else
                  bif Nat.beq pc 413 then some (.getfield 62, 10, 21, 1, 0) else none)
              else
                bif Nat.blt pc 417 then
                  (bif Nat.beq pc 416 then some (.iload_n 3, 3, 0, 0, 0) else none)
                else
                  bif Nat.beq pc 417 then some (.aload_n 0, 0, 0, 0, 0) else none)
            else
              bif Nat.blt pc 422 then
                (bif Nat.blt pc 421 then
                  (bif Nat.beq pc 418 then some (.getfield 132, 10, 1, 0, 0) else none)
                else
                  bif Nat.beq pc 421 then some (.iastore, 0, 0, 0, 0) else none)
              else
                bif Nat.blt pc 423 then
                  (bif Nat.beq pc 422 then some (.aload_n 0, 0, 0, 0, 0) else none)
                else
                  bif Nat.beq pc 423 then some (.getfield 68, 10, 23, 1, 0) else none)
        else
          bif Nat.blt pc 436 then
            (bif Nat.blt pc 430 then
              (bif Nat.blt pc 428 then
                (bif Nat.blt pc 427 then
                  (bif Nat.beq pc 426 then some (.iload_n 3, 3, 0, 0, 0) else none)
                else
                  bif Nat.beq pc 427 then some (.iconst (-1), 0, 0, 0, -1) else none)
              else
                bif Nat.blt pc 429 then
                  (bif Nat.beq pc 428 then some (.iastore, 0, 0, 0, 0) else none)
                else
                  bif Nat.beq pc 429 then some (.aload_n 0, 0, 0, 0, 0) else none)
            else
              bif Nat.blt pc 434 then
                (bif Nat.blt pc 433 then
                  (bif Nat.beq pc 430 then some (.getfield 71, 10, 24, 1, 0) else none)
                else
                  bif Nat.beq pc 433 then some (.iload_n 3, 3, 0, 0, 0) else none)
              else
                bif Nat.blt pc 435 then
                  (bif Nat.beq pc 434 then some (.iconst (-1), 0, 0, 0, -1) else none)
                else
                  bif Nat.beq pc 435 then some (.iastore, 0, 0, 0, 0) else none)
          else
            bif Nat.blt pc 442 then
              (bif Nat.blt pc 440 then
                (bif Nat.blt pc 437 then
                  (bif Nat.beq pc 436 then some (.aload_n 0, 0, 0, 0, 0) else none)
                else
                  bif Nat.beq pc 437 then some (.getfield 74, 10, 25, 1, 0) else none)
              else
                bif Nat.blt pc 441 then
                  (bif Nat.beq pc 440 then some (.iload_n 3, 3, 0, 0, 0) else none)
                else
                  bif Nat.beq pc 441 then some (.iconst (-1), 0, 0, 0, -1) else none)
            else
              bif Nat.blt pc 446 then
                (bif Nat.blt pc 443 then
                  (bif Nat.beq pc 442 then some (.iastore, 0, 0, 0, 0) else none)
                else
                  bif Nat.beq pc 443 then some (.iinc 3 1, 3, 0, 0, 1) else none)
              else
                bif Nat.blt pc 449 then
                  (bif Nat.beq pc 446 then some (.goto (-49), 397, 0, 0, 0) else none)
                else
                  bif Nat.beq pc 449 then some (.return_, 0, 0, 0, 0) else none
def i_M_init : Nat → Option Ent := ab_tab 450 t_M_init
def h_M_init (pc : Nat) : Nat × List Bool := bif Nat.beq pc 334 then (1, [true, false, false, true]) else bif Nat.beq pc 375 then (1, [true, false, false, true]) else bif Nat.beq pc 397 then (1, [true, false, false, true]) else (0, [])
def s_M_init (pc : Nat) : List (Int32 × Nat) × Nat := ([], 0)
noncomputable def eV_M_init : Nat → List AV → Mm → Option Mm := ab_ev [(0, c_O)]
noncomputable def eI_M_init : Nat → List AV → Mm → Option (Int32 × Mm) := ab_ev []
noncomputable def b_M_init_0 (f : Nat) (v0 : Nat) (v1 : Int32) (v2 : Int32) (m : Mm) : Option Rs := ab_ex KT none s_M_init eV_M_init eI_M_init i_M_init h_M_init f 0 [some (.inr (.inr (83, some v0))), some (.inl v1), some (.inl v2), none] [] m
noncomputable def b_M_init_334 (f : Nat) (v0 : Nat) (v3 : Int32) (m : Mm) : Option Rs := ab_ex KT none s_M_init eV_M_init eI_M_init i_M_init h_M_init f 334 [some (.inr (.inr (83, some v0))), none, none, some (.inl v3)] [] m
noncomputable def b_M_init_375 (f : Nat) (v0 : Nat) (v3 : Int32) (m : Mm) : Option Rs := ab_ex KT none s_M_init eV_M_init eI_M_init i_M_init h_M_init f 375 [some (.inr (.inr (83, some v0))), none, none, some (.inl v3)] [] m
noncomputable def b_M_init_397 (f : Nat) (v0 : Nat) (v3 : Int32) (m : Mm) : Option Rs := ab_ex KT none s_M_init eV_M_init eI_M_init i_M_init h_M_init f 397 [some (.inr (.inr (83, some v0))), none, none, some (.inl v3)] [] m
set_option maxRecDepth 100000 in
set_option maxHeartbeats 4000000 in
theorem b_M_init_0_eq (f : Nat) (v0 : Nat) (v1 : Int32) (v2 : Int32) (m : Mm) : b_M_init_0 (f + 1) v0 v1 v2 m =
    if (512 : Int32) = Int32.ofNat 512 then
    ab_let m.2.2.2.1.length fun n2 =>
    ab_let (ab_ap m 29) fun m1 =>
    ab_let (ab_uR m1 85 v0 0 (some n2)) fun m3 =>
    if (512 : Int32) = Int32.ofNat 512 then
    ab_let m3.2.2.2.1.length fun n5 =>
    ab_let (ab_ap m3 30) fun m4 =>
    ab_let (ab_uR m4 86 v0 0 (some n5)) fun m6 =>
    if (8 : Int32) = Int32.ofNat 8 then
    ab_let m6.2.2.2.1.length fun n8 =>
    ab_let (ab_ap m6 31) fun m7 =>
    ab_let (ab_uR m7 87 v0 0 (some n8)) fun m9 =>
    if (8 : Int32) = Int32.ofNat 8 then
    ab_let m9.2.2.2.1.length fun n11 =>
    ab_let (ab_ap m9 32) fun m10 =>
    ab_let (ab_uR m10 88 v0 0 (some n11)) fun m12 =>
    if (8 : Int32) = Int32.ofNat 8 then
    ab_let m12.2.2.2.1.length fun n14 =>
    ab_let (ab_ap m12 33) fun m13 =>
    ab_let (ab_uR m13 89 v0 0 (some n14)) fun m15 =>
    if (8 : Int32) = Int32.ofNat 8 then
    ab_let m15.2.2.2.1.length fun n17 =>
    ab_let (ab_ap m15 34) fun m16 =>
    ab_let (ab_uR m16 90 v0 0 (some n17)) fun m18 =>
    if (8 : Int32) = Int32.ofNat 8 then
    ab_let m18.2.2.2.1.length fun n20 =>
    ab_let (ab_ap m18 35) fun m19 =>
    ab_let (ab_uR m19 91 v0 0 (some n20)) fun m21 =>
    if (8 : Int32) = Int32.ofNat 8 then
    ab_let m21.2.2.2.1.length fun n23 =>
    ab_let (ab_ap m21 36) fun m22 =>
    ab_let (ab_uR m22 92 v0 0 (some n23)) fun m24 =>
    if (8 : Int32) = Int32.ofNat 8 then
    ab_let m24.2.2.2.1.length fun n26 =>
    ab_let (ab_ap m24 37) fun m25 =>
    ab_let (ab_uR m25 93 v0 0 (some n26)) fun m27 =>
    if (512 : Int32) = Int32.ofNat 512 then
    ab_let m27.2.2.2.1.length fun n29 =>
    ab_let (ab_ap m27 38) fun m28 =>
    ab_let (ab_uR m28 94 v0 0 (some n29)) fun m30 =>
    if (8 : Int32) = Int32.ofNat 8 then
    ab_let m30.2.2.2.1.length fun n32 =>
    ab_let (ab_ap m30 39) fun m31 =>
    ab_let (ab_uR m31 95 v0 0 (some n32)) fun m33 =>
    if (8 : Int32) = Int32.ofNat 8 then
    ab_let m33.2.2.2.1.length fun n35 =>
    ab_let (ab_ap m33 40) fun m34 =>
    ab_let (ab_uR m34 96 v0 0 (some n35)) fun m36 =>
    if (8 : Int32) = Int32.ofNat 8 then
    ab_let m36.2.2.2.1.length fun n38 =>
    ab_let (ab_ap m36 41) fun m37 =>
    ab_let (ab_uR m37 97 v0 0 (some n38)) fun m39 =>
    if (8 : Int32) = Int32.ofNat 8 then
    ab_let m39.2.2.2.1.length fun n41 =>
    ab_let (ab_ap m39 42) fun m40 =>
    ab_let (ab_uR m40 98 v0 0 (some n41)) fun m42 =>
    if (8 : Int32) = Int32.ofNat 8 then
    ab_let m42.2.2.2.1.length fun n44 =>
    ab_let (ab_ap m42 43) fun m43 =>
    ab_let (ab_uR m43 99 v0 0 (some n44)) fun m45 =>
    if (8 : Int32) = Int32.ofNat 8 then
    ab_let m45.2.2.2.1.length fun n47 =>
    ab_let (ab_ap m45 44) fun m46 =>
    ab_let (ab_uR m46 100 v0 0 (some n47)) fun m48 =>
    if (2 : Int32) = Int32.ofNat 2 then
    ab_let m48.2.2.2.1.length fun n50 =>
    ab_let (ab_ap m48 45) fun m49 =>
    ab_let (ab_uR m49 101 v0 0 (some n50)) fun m51 =>
    if (2 : Int32) = Int32.ofNat 2 then
    ab_let m51.2.2.2.1.length fun n53 =>
    ab_let (ab_ap m51 46) fun m52 =>
    ab_let (ab_uR m52 102 v0 0 (some n53)) fun m54 =>
    if (2 : Int32) = Int32.ofNat 2 then
    ab_let m54.2.2.2.1.length fun n56 =>
    ab_let (ab_ap m54 47) fun m55 =>
    ab_let (ab_uR m55 103 v0 0 (some n56)) fun m57 =>
    if (2 : Int32) = Int32.ofNat 2 then
    ab_let m57.2.2.2.1.length fun n59 =>
    ab_let (ab_ap m57 48) fun m58 =>
    ab_let (ab_uR m58 104 v0 0 (some n59)) fun m60 =>
    if (2 : Int32) = Int32.ofNat 2 then
    ab_let m60.2.2.2.1.length fun n62 =>
    ab_let (ab_ap m60 49) fun m61 =>
    ab_let (ab_uR m61 105 v0 0 (some n62)) fun m63 =>
    if (2 : Int32) = Int32.ofNat 2 then
    ab_let m63.2.2.2.1.length fun n65 =>
    ab_let (ab_ap m63 50) fun m64 =>
    ab_let (ab_uR m64 106 v0 0 (some n65)) fun m66 =>
    if (2 : Int32) = Int32.ofNat 2 then
    ab_let m66.2.2.2.1.length fun n68 =>
    ab_let (ab_ap m66 51) fun m67 =>
    ab_let (ab_uR m67 107 v0 0 (some n68)) fun m69 =>
    if (2 : Int32) = Int32.ofNat 2 then
    ab_let m69.2.2.2.1.length fun n71 =>
    ab_let (ab_ap m69 52) fun m70 =>
    ab_let (ab_uR m70 108 v0 0 (some n71)) fun m72 =>
    if (2 : Int32) = Int32.ofNat 2 then
    ab_let m72.2.2.2.1.length fun n74 =>
    ab_let (ab_ap m72 53) fun m73 =>
    ab_let (ab_uR m73 109 v0 0 (some n74)) fun m75 =>
    if (2 : Int32) = Int32.ofNat 2 then
    ab_let m75.2.2.2.1.length fun n77 =>
    ab_let (ab_ap m75 54) fun m76 =>
    ab_let (ab_uR m76 110 v0 0 (some n77)) fun m78 =>
    if (2 : Int32) = Int32.ofNat 2 then
    ab_let m78.2.2.2.1.length fun n80 =>
    ab_let (ab_ap m78 55) fun m79 =>
    ab_let (ab_uR m79 111 v0 0 (some n80)) fun m81 =>
    if (2 : Int32) = Int32.ofNat 2 then
    ab_let m81.2.2.2.1.length fun n83 =>
    ab_let (ab_ap m81 56) fun m82 =>
    ab_let (ab_uR m82 112 v0 0 (some n83)) fun m84 =>
    if (640 : Int32) = Int32.ofNat 640 then
    ab_let m84.2.2.2.1.length fun n86 =>
    ab_let (ab_ap m84 57) fun m85 =>
    ab_let (ab_uR m85 113 v0 0 (some n86)) fun m87 =>
    if (1120 : Int32) = Int32.ofNat 1120 then
    ab_let m87.2.2.2.1.length fun n89 =>
    ab_let (ab_ap m87 58) fun m88 =>
    ab_let (ab_uR m88 114 v0 0 (some n89)) fun m90 =>
    if (1120 : Int32) = Int32.ofNat 1120 then
    ab_let m90.2.2.2.1.length fun n92 =>
    ab_let (ab_ap m90 59) fun m91 =>
    ab_let (ab_uR m91 115 v0 0 (some n92)) fun m93 =>
    if (1120 : Int32) = Int32.ofNat 1120 then
    ab_let m93.2.2.2.1.length fun n95 =>
    ab_let (ab_ap m93 60) fun m94 =>
    ab_let (ab_uR m94 116 v0 0 (some n95)) fun m96 =>
    if (4480 : Int32) = Int32.ofNat 4480 then
    ab_let m96.2.2.2.1.length fun n98 =>
    ab_let (ab_ap m96 61) fun m97 =>
    ab_let (ab_uR m97 117 v0 0 (some n98)) fun m99 =>
    if (672 : Int32) = Int32.ofNat 672 then
    ab_let m99.2.2.2.1.length fun n101 =>
    ab_let (ab_ap m99 62) fun m100 =>
    ab_let (ab_uR m100 119 v0 0 (some n101)) fun m102 =>
    if (48 : Int32) = Int32.ofNat 48 then
    ab_let m102.2.2.2.1.length fun n104 =>
    ab_let (ab_ap m102 63) fun m103 =>
    ab_let (ab_uR m103 120 v0 0 (some n104)) fun m105 =>
    if (48 : Int32) = Int32.ofNat 48 then
    ab_let m105.2.2.2.1.length fun n107 =>
    ab_let (ab_ap m105 64) fun m106 =>
    ab_let (ab_uR m106 121 v0 0 (some n107)) fun m108 =>
    if (37 : Int32) = Int32.ofNat 37 then
    ab_let m108.2.2.2.1.length fun n110 =>
    ab_let (ab_ap m108 65) fun m109 =>
    ab_let (ab_uR m109 122 v0 0 (some n110)) fun m111 =>
    if (3 : Int32) = Int32.ofNat 3 then
    ab_let m111.2.2.2.1.length fun n113 =>
    ab_let (ab_ap m111 66) fun m112 =>
    ab_let (ab_uR m112 128 v0 0 (some n113)) fun m114 =>
    if (3 : Int32) = Int32.ofNat 3 then
    ab_let m114.2.2.2.1.length fun n116 =>
    ab_let (ab_ap m114 67) fun m115 =>
    ab_let (ab_uR m115 129 v0 0 (some n116)) fun m117 =>
    ab_let (ab_uI m117 81 v0 0 ((4 : Int32) + (v1 &&& (15 : Int32)))) fun m118 =>
    ab_let (ab_uI m118 82 v0 0 ((8 : Int32) + (v2 &&& (31 : Int32)))) fun m119 =>
    b_M_init_334 f v0 (0 : Int32) m119
    else none
    else none
    else none
    else none
    else none
    else none
    else none
    else none
    else none
    else none
    else none
    else none
    else none
    else none
    else none
    else none
    else none
    else none
    else none
    else none
    else none
    else none
    else none
    else none
    else none
    else none
    else none
    else none
    else none
    else none
    else none
    else none
    else none
    else none
    else none
    else none
    else none
    else none
    else none := rfl
set_option maxRecDepth 100000 in
set_option maxHeartbeats 4000000 in
theorem b_M_init_334_eq (f : Nat) (v0 : Nat) (v3 : Int32) (m : Mm) : b_M_init_334 (f + 1) v0 v3 m =
    if (8 : Int32) ≤ v3 then
      b_M_init_375 f v0 (0 : Int32) m
    else
      (m.2.2.1 91 v0 0).bind fun q1 =>
        (ab_ix v3 8).bind fun i2 =>
      ab_let (ab_uI m 139 q1 i2 (m.1 81 v0 0)) fun m3 =>
      (m3.2.2.1 98 v0 0).bind fun q4 =>
        (ab_ix v3 8).bind fun i5 =>
      ab_let (ab_uI m3 146 q4 i5 (m3.1 81 v0 0)) fun m6 =>
      (m6.2.2.1 96 v0 0).bind fun q7 =>
        (ab_ix v3 8).bind fun i8 =>
      ab_let (ab_uI m6 144 q7 i8 (-1 : Int32)) fun m9 =>
      ab_let (v3 + (1 : Int32)) fun x10 =>
      b_M_init_334 f v0 x10 m9 := rfl
set_option maxRecDepth 100000 in
set_option maxHeartbeats 4000000 in
theorem b_M_init_375_eq (f : Nat) (v0 : Nat) (v3 : Int32) (m : Mm) : b_M_init_375 (f + 1) v0 v3 m =
    if (512 : Int32) ≤ v3 then
      b_M_init_397 f v0 (0 : Int32) m
    else
      (m.2.2.1 94 v0 0).bind fun q1 =>
        (ab_ix v3 512).bind fun i2 =>
      ab_let (ab_uI m 142 q1 i2 (-1 : Int32)) fun m3 =>
      ab_let (v3 + (1 : Int32)) fun x4 =>
      b_M_init_375 f v0 x4 m3 := rfl
set_option maxRecDepth 100000 in
set_option maxHeartbeats 4000000 in
theorem b_M_init_397_eq (f : Nat) (v0 : Nat) (v3 : Int32) (m : Mm) : b_M_init_397 (f + 1) v0 v3 m =
    if (2 : Int32) ≤ v3 then
      some (.inl (none, m))
    else
      (m.2.2.1 101 v0 0).bind fun q1 =>
        (ab_ix v3 2).bind fun i2 =>
      ab_let (ab_uI m 149 q1 i2 (m.1 82 v0 0)) fun m3 =>
      (m3.2.2.1 102 v0 0).bind fun q4 =>
        (ab_ix v3 2).bind fun i5 =>
      ab_let (ab_uI m3 150 q4 i5 (m3.1 82 v0 0)) fun m6 =>
      (m6.2.2.1 104 v0 0).bind fun q7 =>
        (ab_ix v3 2).bind fun i8 =>
      ab_let (ab_uI m6 152 q7 i8 (-1 : Int32)) fun m9 =>
      (m9.2.2.1 105 v0 0).bind fun q10 =>
        (ab_ix v3 2).bind fun i11 =>
      ab_let (ab_uI m9 153 q10 i11 (-1 : Int32)) fun m12 =>
      (m12.2.2.1 106 v0 0).bind fun q13 =>
        (ab_ix v3 2).bind fun i14 =>
      ab_let (ab_uI m12 154 q13 i14 (-1 : Int32)) fun m15 =>
      ab_let (v3 + (1 : Int32)) fun x16 =>
      b_M_init_397 f v0 x16 m15 := rfl
noncomputable def r_M_init : Nat → Int32 → Int32 → Mm → Option Mm := ab_seal fun v0 v1 v2 m => ab_rV (b_M_init_0 50000 v0 v1 v2 m)
theorem r_M_init_eq (v0 : Nat) (v1 : Int32) (v2 : Int32) (m : Mm) : r_M_init v0 v1 v2 m = ab_rV (b_M_init_0 50000 v0 v1 v2 m) := by
  unfold r_M_init
  rw [ab_seal_eq]
noncomputable def c_M_init : List AV → Mm → Option Mm := fun av m => match av with
  | [.inr (.inr (kv0, ov0)), .inl v1, .inl v2] => if kv0 = 83 then (ov0.bind fun v0 => r_M_init v0 v1 v2 m) else none
  | _ => none
theorem c_M_init_inv {av : List AV} {m : Mm} {r : Mm} (h : c_M_init av m = some r) : ∃ (v0 : Nat) (v1 : Int32) (v2 : Int32), av = [.inr (.inr (83, some v0)), .inl v1, .inl v2] ∧ r_M_init v0 v1 v2 m = some r := by
  unfold c_M_init at h
  split at h
  · rename_i kv0 ov0 v1 v2
    by_cases hkv0 : kv0 = 83
    case neg => rw [if_neg hkv0] at h; cases h
    rw [if_pos hkv0] at h
    subst hkv0
    obtain ⟨v0, hev0, h⟩ := Option.bind_eq_some_iff.mp h
    subst hev0
    exact ⟨v0, v1, v2, rfl, h⟩
  · cases h
def cs_M_init : List Nat := [1]
set_option maxRecDepth 100000 in
theorem E_M_init : ∀ (pc : Nat) (q : Ent), i_M_init pc = some q → ab_E KT CL ab_gW "StreamTransportModel" "<init>" none prog_12_method_1_code s_M_init 4 pc q.1 q.2.1 q.2.2.1 q.2.2.2.1 q.2.2.2.2 := fun pc q hq =>
  ab_Eb_ok lc_M lj_M fl_M fpi_M nw_M na_M nq_M (ab_tab_all (t := t_M_init) (chk := fun pc q => ab_Eb none prog_12_method_1_code s_M_init 4 LC_M LJ_M FL_M FPi_M NW_M NA_M NQ_M pc q.1 q.2.1 q.2.2.1 q.2.2.2.1 q.2.2.2.2) (by decide +kernel) hq)
set_option maxRecDepth 100000 in
theorem mo_M_init {av : List AV} {m : Mm} {r : Mm} (h : c_M_init av m = some r) : ab_mo m r := by
  obtain ⟨v0, v1, v2, -, h⟩ := c_M_init_inv h
  rw [r_M_init_eq] at h
  have hV : ∀ a av m m', eV_M_init a av m = some m' → ab_mo m m' := ab_ev_all (P := fun _ m r => ab_mo m r) [(0, c_O)] (List.forall_mem_cons.mpr ⟨fun av m r h => ab_kp_mo (kp_O h), fun q hq => by cases hq⟩)
  have hI : ∀ a av m q, eI_M_init a av m = some q → ab_mo m q.2 := ab_ev_all (P := fun _ (m : Mm) (r : Int32 × Mm) => ab_mo m r.2) [] (fun q hq => by cases hq)
  exact ab_morel (ρ := .inl (none, r)) hV hI (ab_rV_inv h)
set_option maxRecDepth 100000 in
theorem cl_M_init (l : Launch) : ∀ (pc : Nat) (q : Ent), i_M_init pc = some q → ab_inv q.1 = true → ab_CR l KT CL none ab_gW "StreamTransportModel" prog_12_method_1_code 4 1 20 eV_M_init eI_M_init pc q := by
  intro pc q hq hi
  have hm : pc ∈ cs_M_init := ab_tab_cs (t := t_M_init) (by decide +kernel) hq hi
  simp only [cs_M_init, List.mem_cons, List.not_mem_nil, or_false] at hm
  rcases hm with rfl
  · cases (Option.some.inj hq : ((.invokespecial 1, 0, 1, 0, 0) : Ent) = q)
    exact ab_crO (by decide +kernel) (ab_gW_in 985 (by decide +kernel) rfl) ab_oI ab_oC (by decide) (by decide) (fun av m m' h => c_O_inv h) (fun av m => rfl)
theorem cw_M_init : ab_cw y_M_init prog_12_method_1_code 4 2 none := ⟨ab_gW_in 984 (by decide +kernel) rfl, ab_gW_in 71 (by decide +kernel) rfl, by decide +kernel, by decide +kernel, by decide +kernel⟩
theorem is_M_init : Cond.instanceMethod y_M_init ∈ ab_gW := ab_gW_in 983 (by decide +kernel) rfl
set_option maxRecDepth 100000 in
theorem cm_M_init (l : Launch) {av : List AV} {m : Mm} {r : Mm} (h0 : c_M_init av m = some r) : ∃ (k q : Nat) (av' : List AV), av = .inr (.inr (k, some q)) :: av' ∧ av'.length = 2 ∧ k ≠ 0 ∧ ab_nos av' ∧ ab_Met l KT CL y_M_init (Cond.code y_M_init prog_12_method_1_code 4 none :: ab_gW) 1 20 none av m none r := by
  obtain ⟨v0, v1, v2, hav, h⟩ := c_M_init_inv h0
  rw [r_M_init_eq] at h
  have hmo : ab_mo m r := mo_M_init h0
  subst hav
  exact ⟨_, _, _, rfl, rfl, by decide, (by intro v hv q e; subst e; simp at hv), ab_met (by decide +kernel) KT_0 KT_nd KT_k3 E_M_init (cl_M_init l) hmo (Nat.le_of_ble_eq_true rfl) (ab_rV_inv h) (fun v hv => by cases hv)⟩
end
